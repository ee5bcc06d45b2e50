set_option maxHeartbeats 4000000 in
set_option maxRecDepth 100000 in
theorem c_X2_append (l : Launch) (D : va_G) (cI cZ cC cS : ClassId) (hTX hTXs hTXc : Nat) (TXle : Int32) (TXpo : Int32) (TXfa : Int32) (TXso : Int32) (TXki : Int32) (TXtu : Int32) (TXce : Int32) (TXsi : Nat → Int32) (p0 : Int32) (out : Int32 × Int32 × (Nat → Int32)) (hm : f_X2_append TXle TXsi p0 = some out) : Ct l yX2_append cX2_append 2 (some .boolean) ({ frames := 0, cells := 0, slots := 0, locals := 0 }) (D, TY cI cZ cC cS) [.ref hTX, .int p0] [(hTX, .inr (1, [.ref hTXs, .int TXle, .int TXpo, .int TXfa, .int TXso, .int TXki, .int TXtu, .int TXce, .ref hTXc])), (hTXs, .inl (cC, 60, .inl TXsi))] (jw_P (some (.int out.1)) [(hTX, .inr (1, [.ref hTXs, .int out.2.1, .int TXpo, .int TXfa, .int TXso, .int TXki, .int TXtu, .int TXce, .ref hTXc])), (hTXs, .inl (cC, 60, .inl out.2.2))]) 0 0 := by
  refine ct_of RX2 (by decide +kernel) rfl (Nat.le_of_ble_eq_true rfl) (fun j cx => ?_)
  unfold f_X2_append at hm
  show j 0 0 [(hTX, .inr (1, [.ref hTXs, .int TXle, .int TXpo, .int TXfa, .int TXso, .int TXki, .int TXtu, .int TXce, .ref hTXc])), (hTXs, .inl (cC, 60, .inl TXsi))] [(0, .ref hTX), (1, .int p0)] 0 []
  refine j_aload_n (pc' := 1) cx 0 dX2_append_0 rfl rfl ?_
  refine j_get (C := RX2) (T := TX2) (N := 9) (pc' := 4) cx uB_X2 0 rfl rfl 1 (by decide) wF_X2_15 (.int TXle) rfl dX2_append_1 rfl ?_
  refine j_bipush (pc' := 6) cx 60 dX2_append_4 kb_60 rfl ?_
  refine j_icmp_lt (tgt := 11) (pc' := 9) cx dX2_append_6 (by decide) rfl (fun chm => ?_) (fun chm => ?_)
  · have h_1 := it_t hm chm
    refine j_aload_n (pc' := 12) cx 0 dX2_append_11 rfl rfl ?_
    refine j_get (C := RX2) (T := TX2) (N := 9) (pc' := 15) cx uB_X2 0 rfl rfl 0 (by decide) wF_X2_9 (.ref hTXs) rfl dX2_append_12 rfl ?_
    refine j_aload_n (pc' := 16) cx 0 dX2_append_15 rfl rfl ?_
    refine j_get (C := RX2) (T := TX2) (N := 9) (pc' := 19) cx uB_X2 0 rfl rfl 1 (by decide) wF_X2_15 (.int TXle) rfl dX2_append_16 rfl ?_
    refine j_iload_n (pc' := 20) cx 1 dX2_append_19 rfl rfl ?_
    obtain ⟨i1, h_2⟩ := ck_s h_1
    refine j_cast (ws' := [(hTX, .inr (1, [.ref hTXs, .int TXle, .int TXpo, .int TXfa, .int TXso, .int TXki, .int TXtu, .int TXce, .ref hTXc])), (hTXs, .inl (cC, 60, .inl (upd TXsi TXle.toNatClampNeg (vp_nar .char p0))))]) (pc' := 21) cx 1 2 rfl rfl i1 rfl dX2_append_20 rfl ?_
    refine j_aload_n (pc' := 22) cx 0 dX2_append_21 rfl rfl ?_
    refine j_dup (pc' := 23) cx dX2_append_22 rfl rfl ?_
    refine j_get (C := RX2) (T := TX2) (N := 9) (pc' := 26) cx uB_X2 0 rfl rfl 1 (by decide) wF_X2_15 (.int TXle) rfl dX2_append_23 rfl ?_
    refine j_iconst (pc' := 27) cx 1 dX2_append_26 ki_1 rfl ?_
    refine j_iadd (pc' := 28) cx dX2_append_27 rfl ?_
    refine j_put (C := RX2) (T := TX2) (N := 9) (ws' := [(hTX, .inr (1, [.ref hTXs, .int (TXle + 1), .int TXpo, .int TXfa, .int TXso, .int TXki, .int TXtu, .int TXce, .ref hTXc])), (hTXs, .inl (cC, 60, .inl (upd TXsi TXle.toNatClampNeg (vp_nar .char p0))))]) (pc' := 31) cx uB_X2 tyX2 tyX2_ok nmX2 0 rfl rfl 1 (by decide) wF_X2_15 rfl rfl rfl (Nat.le_of_ble_eq_true rfl) rfl dX2_append_28 rfl ?_
    refine j_iconst (pc' := 32) cx 1 dX2_append_31 ki_1 rfl ?_
    have h_3 := so_i h_2
    subst h_3
    exact j_ret cx (Or.inr (Or.inl ⟨_, _, rfl, (by decide +kernel), dX2_append_32, rfl, rfl⟩)) ⟨rfl, rfl⟩
  · have h_4 := it_f hm chm
    refine j_iconst (pc' := 10) cx 0 dX2_append_9 ki_0 rfl ?_
    have h_5 := so_i h_4
    subst h_5
    exact j_ret cx (Or.inr (Or.inl ⟨_, _, rfl, (by decide +kernel), dX2_append_10, rfl, rfl⟩)) ⟨rfl, rfl⟩
set_option maxHeartbeats 4000000 in
set_option maxRecDepth 100000 in
theorem c_X2_empty (l : Launch) (D : va_G) (cI cZ cC cS : ClassId) (hTX hTXs hTXc : Nat) (TXle : Int32) (TXpo : Int32) (TXfa : Int32) (TXso : Int32) (TXki : Int32) (TXtu : Int32) (TXce : Int32) (out : Int32) (hm : f_X2_empty TXle = some out) : Ct l yX2_empty cX2_empty 1 none ({ frames := 0, cells := 0, slots := 0, locals := 0 }) (D, TY cI cZ cC cS) [.ref hTX] [(hTX, .inr (1, [.ref hTXs, .int TXle, .int TXpo, .int TXfa, .int TXso, .int TXki, .int TXtu, .int TXce, .ref hTXc]))] (jw_P none [(hTX, .inr (1, [.ref hTXs, .int out, .int TXpo, .int TXfa, .int TXso, .int TXki, .int TXtu, .int TXce, .ref hTXc]))]) 0 0 := by
  refine ct_of RX2 (by decide +kernel) rfl (Nat.le_of_ble_eq_true rfl) (fun j cx => ?_)
  unfold f_X2_empty at hm
  show j 0 0 [(hTX, .inr (1, [.ref hTXs, .int TXle, .int TXpo, .int TXfa, .int TXso, .int TXki, .int TXtu, .int TXce, .ref hTXc]))] [(0, .ref hTX)] 0 []
  refine j_aload_n (pc' := 1) cx 0 dX2_empty_0 rfl rfl ?_
  refine j_iconst (pc' := 2) cx 0 dX2_empty_1 ki_0 rfl ?_
  refine j_put (C := RX2) (T := TX2) (N := 9) (ws' := [(hTX, .inr (1, [.ref hTXs, .int 0, .int TXpo, .int TXfa, .int TXso, .int TXki, .int TXtu, .int TXce, .ref hTXc]))]) (pc' := 5) cx uB_X2 tyX2 tyX2_ok nmX2 0 rfl rfl 1 (by decide) wF_X2_15 rfl rfl rfl (Nat.le_of_ble_eq_true rfl) rfl dX2_empty_2 rfl ?_
  have h_1 := so_i hm
  subst h_1
  exact j_ret cx (Or.inl ⟨rfl, dX2_empty_5, rfl, rfl⟩) ⟨rfl, rfl⟩
set_option maxHeartbeats 4000000 in
set_option maxRecDepth 100000 in
theorem c_X2_length (l : Launch) (D : va_G) (cI cZ cC cS : ClassId) (hTX hTXs hTXc : Nat) (TXle : Int32) (TXpo : Int32) (TXfa : Int32) (TXso : Int32) (TXki : Int32) (TXtu : Int32) (TXce : Int32) (out : Int32) (hm : f_X2_length TXle = some out) : Ct l yX2_length cX2_length 1 (some .int) ({ frames := 0, cells := 0, slots := 0, locals := 0 }) (D, TY cI cZ cC cS) [.ref hTX] [(hTX, .inr (1, [.ref hTXs, .int TXle, .int TXpo, .int TXfa, .int TXso, .int TXki, .int TXtu, .int TXce, .ref hTXc]))] (jw_P (some (.int out)) [(hTX, .inr (1, [.ref hTXs, .int TXle, .int TXpo, .int TXfa, .int TXso, .int TXki, .int TXtu, .int TXce, .ref hTXc]))]) 0 0 := by
  refine ct_of RX2 (by decide +kernel) rfl (Nat.le_of_ble_eq_true rfl) (fun j cx => ?_)
  unfold f_X2_length at hm
  show j 0 0 [(hTX, .inr (1, [.ref hTXs, .int TXle, .int TXpo, .int TXfa, .int TXso, .int TXki, .int TXtu, .int TXce, .ref hTXc]))] [(0, .ref hTX)] 0 []
  refine j_aload_n (pc' := 1) cx 0 dX2_length_0 rfl rfl ?_
  refine j_get (C := RX2) (T := TX2) (N := 9) (pc' := 4) cx uB_X2 0 rfl rfl 1 (by decide) wF_X2_15 (.int TXle) rfl dX2_length_1 rfl ?_
  have h_1 := so_i hm
  subst h_1
  exact j_ret cx (Or.inr (Or.inl ⟨_, _, rfl, rfl, dX2_length_4, rfl, rfl⟩)) ⟨rfl, rfl⟩
set_option maxHeartbeats 4000000 in
set_option maxRecDepth 100000 in
theorem c_X2_rewind (l : Launch) (D : va_G) (cI cZ cC cS : ClassId) (hTX hTXs hTXc : Nat) (TXle : Int32) (TXpo : Int32) (TXfa : Int32) (TXso : Int32) (TXki : Int32) (TXtu : Int32) (TXce : Int32) (out : Int32 × Int32) (hm : f_X2_rewind TXpo TXfa = some out) : Ct l yX2_rewind cX2_rewind 1 none ({ frames := 0, cells := 0, slots := 0, locals := 0 }) (D, TY cI cZ cC cS) [.ref hTX] [(hTX, .inr (1, [.ref hTXs, .int TXle, .int TXpo, .int TXfa, .int TXso, .int TXki, .int TXtu, .int TXce, .ref hTXc]))] (jw_P none [(hTX, .inr (1, [.ref hTXs, .int TXle, .int out.1, .int out.2, .int TXso, .int TXki, .int TXtu, .int TXce, .ref hTXc]))]) 0 0 := by
  refine ct_of RX2 (by decide +kernel) rfl (Nat.le_of_ble_eq_true rfl) (fun j cx => ?_)
  unfold f_X2_rewind at hm
  show j 0 0 [(hTX, .inr (1, [.ref hTXs, .int TXle, .int TXpo, .int TXfa, .int TXso, .int TXki, .int TXtu, .int TXce, .ref hTXc]))] [(0, .ref hTX)] 0 []
  refine j_aload_n (pc' := 1) cx 0 dX2_rewind_0 rfl rfl ?_
  refine j_iconst (pc' := 2) cx 0 dX2_rewind_1 ki_0 rfl ?_
  refine j_put (C := RX2) (T := TX2) (N := 9) (ws' := [(hTX, .inr (1, [.ref hTXs, .int TXle, .int 0, .int TXfa, .int TXso, .int TXki, .int TXtu, .int TXce, .ref hTXc]))]) (pc' := 5) cx uB_X2 tyX2 tyX2_ok nmX2 0 rfl rfl 2 (by decide) wF_X2_19 rfl rfl rfl (Nat.le_of_ble_eq_true rfl) rfl dX2_rewind_2 rfl ?_
  refine j_aload_n (pc' := 6) cx 0 dX2_rewind_5 rfl rfl ?_
  refine j_iconst (pc' := 7) cx 0 dX2_rewind_6 ki_0 rfl ?_
  refine j_put (C := RX2) (T := TX2) (N := 9) (ws' := [(hTX, .inr (1, [.ref hTXs, .int TXle, .int 0, .int 0, .int TXso, .int TXki, .int TXtu, .int TXce, .ref hTXc]))]) (pc' := 10) cx uB_X2 tyX2 tyX2_ok nmX2 0 rfl rfl 3 (by decide) wF_X2_22 rfl (by decide +kernel) (by decide +kernel) (Nat.le_of_ble_eq_true rfl) rfl dX2_rewind_7 rfl ?_
  have h_1 := so_i hm
  subst h_1
  exact j_ret cx (Or.inl ⟨rfl, dX2_rewind_10, rfl, rfl⟩) ⟨rfl, rfl⟩
set_option maxHeartbeats 4000000 in
set_option maxRecDepth 100000 in
theorem c_X2_digitAhead (l : Launch) (D : va_G) (cI cZ cC cS : ClassId) (hTX hTXs hTXc : Nat) (TXle : Int32) (TXpo : Int32) (TXfa : Int32) (TXso : Int32) (TXki : Int32) (TXtu : Int32) (TXce : Int32) (TXsi : Nat → Int32) (out : Int32) (hm : f_X2_digitAhead TXle TXpo TXsi = some out) : Ct l yX2_digitAhead cX2_digitAhead 2 (some .int) ({ frames := 0, cells := 0, slots := 0, locals := 0 }) (D, TY cI cZ cC cS) [.ref hTX] [(hTX, .inr (1, [.ref hTXs, .int TXle, .int TXpo, .int TXfa, .int TXso, .int TXki, .int TXtu, .int TXce, .ref hTXc])), (hTXs, .inl (cC, 60, .inl TXsi))] (jw_P (some (.int out)) [(hTX, .inr (1, [.ref hTXs, .int TXle, .int TXpo, .int TXfa, .int TXso, .int TXki, .int TXtu, .int TXce, .ref hTXc])), (hTXs, .inl (cC, 60, .inl TXsi))]) 0 0 := by
  refine ct_of RX2 (by decide +kernel) rfl (Nat.le_of_ble_eq_true rfl) (fun j cx => ?_)
  unfold f_X2_digitAhead at hm
  show j 0 0 [(hTX, .inr (1, [.ref hTXs, .int TXle, .int TXpo, .int TXfa, .int TXso, .int TXki, .int TXtu, .int TXce, .ref hTXc])), (hTXs, .inl (cC, 60, .inl TXsi))] [(0, .ref hTX)] 0 []
  refine j_aload_n (pc' := 1) cx 0 dX2_digitAhead_0 rfl rfl ?_
  refine j_get (C := RX2) (T := TX2) (N := 9) (pc' := 4) cx uB_X2 0 rfl rfl 2 (by decide) wF_X2_19 (.int TXpo) rfl dX2_digitAhead_1 rfl ?_
  refine j_aload_n (pc' := 5) cx 0 dX2_digitAhead_4 rfl rfl ?_
  refine j_get (C := RX2) (T := TX2) (N := 9) (pc' := 8) cx uB_X2 0 rfl rfl 1 (by decide) wF_X2_15 (.int TXle) rfl dX2_digitAhead_5 rfl ?_
  refine j_icmp_lt (tgt := 13) (pc' := 11) cx dX2_digitAhead_8 (by decide) rfl (fun chm => ?_) (fun chm => ?_)
  · have h_1 := it_t hm chm
    refine j_aload_n (pc' := 14) cx 0 dX2_digitAhead_13 rfl rfl ?_
    refine j_get (C := RX2) (T := TX2) (N := 9) (pc' := 17) cx uB_X2 0 rfl rfl 0 (by decide) wF_X2_9 (.ref hTXs) rfl dX2_digitAhead_14 rfl ?_
    refine j_aload_n (pc' := 18) cx 0 dX2_digitAhead_17 rfl rfl ?_
    refine j_get (C := RX2) (T := TX2) (N := 9) (pc' := 21) cx uB_X2 0 rfl rfl 2 (by decide) wF_X2_19 (.int TXpo) rfl dX2_digitAhead_18 rfl ?_
    obtain ⟨i1, h_2⟩ := ck_s h_1
    refine j_cald (pc' := 22) cx 1 2 rfl rfl i1 dX2_digitAhead_21 rfl ?_
    refine j_istore_n (lv' := [(1, .int (TXsi TXpo.toNatClampNeg)), (0, .ref hTX)]) (pc' := 23) cx dX2_digitAhead_22 (by decide) rfl rfl ?_
    refine j_iload_n (pc' := 24) cx 0 dX2_digitAhead_23 rfl rfl ?_
    refine j_bipush (pc' := 26) cx 48 dX2_digitAhead_24 kb_48 rfl ?_
    obtain ⟨t2, h_4, h_3⟩ := bd_s h_2
    have Kt2 : j 0 0 [(hTX, .inr (1, [.ref hTXs, .int TXle, .int TXpo, .int TXfa, .int TXso, .int TXki, .int TXtu, .int TXce, .ref hTXc])), (hTXs, .inl (cC, 60, .inl TXsi))] [] 43 [.int t2] := by
      have h_5 := so_i h_3
      subst h_5
      exact j_ret cx (Or.inr (Or.inl ⟨_, _, rfl, rfl, dX2_digitAhead_43, rfl, rfl⟩)) ⟨rfl, rfl⟩
    refine j_icmp_lt (tgt := 42) (pc' := 29) cx dX2_digitAhead_26 (by decide) rfl (fun ch_4 => ?_) (fun ch_4 => ?_)
    · have h_6 := it_t h_4 ch_4
      refine j_iconst (pc' := 43) cx (-1) dX2_digitAhead_42 ki_m1 rfl ?_
      have h_7 := so_i h_6
      subst h_7
      refine j_lv (lv' := []) cx [] rfl ?_
      exact Kt2
    · have h_8 := it_f h_4 ch_4
      refine j_iload_n (pc' := 30) cx 0 dX2_digitAhead_29 rfl rfl ?_
      refine j_bipush (pc' := 32) cx 57 dX2_digitAhead_30 kb_57 rfl ?_
      refine j_icmp_gt (tgt := 42) (pc' := 35) cx dX2_digitAhead_32 (by decide) rfl (fun ch_8 => ?_) (fun ch_8 => ?_)
      · have h_9 := it_t h_8 ch_8
        refine j_iconst (pc' := 43) cx (-1) dX2_digitAhead_42 ki_m1 rfl ?_
        have h_10 := so_i h_9
        subst h_10
        refine j_lv (lv' := []) cx [] rfl ?_
        exact Kt2
      · have h_11 := it_f h_8 ch_8
        refine j_iload_n (pc' := 36) cx 0 dX2_digitAhead_35 rfl rfl ?_
        refine j_bipush (pc' := 38) cx 48 dX2_digitAhead_36 kb_48 rfl ?_
        refine j_isub (pc' := 39) cx dX2_digitAhead_38 rfl ?_
        refine j_goto (pc' := 43) cx dX2_digitAhead_39 (by decide) ?_
        have h_12 := so_i h_11
        subst h_12
        refine j_lv (lv' := []) cx [] rfl ?_
        exact Kt2
  · have h_13 := it_f hm chm
    refine j_iconst (pc' := 12) cx (-1) dX2_digitAhead_11 ki_m1 rfl ?_
    have h_14 := so_i h_13
    subst h_14
    exact j_ret cx (Or.inr (Or.inl ⟨_, _, rfl, rfl, dX2_digitAhead_12, rfl, rfl⟩)) ⟨rfl, rfl⟩
set_option maxHeartbeats 4000000 in
set_option maxRecDepth 100000 in
theorem c_X2_readDigit (l : Launch) (D : va_G) (cI cZ cC cS : ClassId) (hTX hTXs hTXc : Nat) (TXle : Int32) (TXpo : Int32) (TXfa : Int32) (TXso : Int32) (TXki : Int32) (TXtu : Int32) (TXce : Int32) (TXsi : Nat → Int32) (p0 : Int32) (out : Int32 × Int32 × Int32) (hm : f_X2_readDigit TXle TXpo TXfa TXsi p0 = some out) : Ct l yX2_readDigit cX2_readDigit 3 (some .int) ({ frames := 1, cells := 0, slots := 0, locals := 21 }) (D, TY cI cZ cC cS) [.ref hTX, .int p0] [(hTX, .inr (1, [.ref hTXs, .int TXle, .int TXpo, .int TXfa, .int TXso, .int TXki, .int TXtu, .int TXce, .ref hTXc])), (hTXs, .inl (cC, 60, .inl TXsi))] (jw_P (some (.int out.1)) [(hTX, .inr (1, [.ref hTXs, .int TXle, .int out.2.1, .int out.2.2, .int TXso, .int TXki, .int TXtu, .int TXce, .ref hTXc])), (hTXs, .inl (cC, 60, .inl TXsi))]) 0 0 := by
  refine ct_of RX2 (by decide +kernel) rfl (Nat.le_of_ble_eq_true rfl) (fun j cx => ?_)
  unfold f_X2_readDigit at hm
  show j 0 0 [(hTX, .inr (1, [.ref hTXs, .int TXle, .int TXpo, .int TXfa, .int TXso, .int TXki, .int TXtu, .int TXce, .ref hTXc])), (hTXs, .inl (cC, 60, .inl TXsi))] [(0, .ref hTX), (1, .int p0)] 0 []
  refine j_aload_n (pc' := 1) cx 0 dX2_readDigit_0 rfl rfl ?_
  obtain ⟨r1, c2, h_1⟩ := bd_s hm
  refine j_cV (pc' := 4) cx (c_X2_digitAhead l D cI cZ cC cS hTX hTXs hTXc TXle TXpo TXfa TXso TXki TXtu TXce TXsi r1 c2) 0 yk_X2_digitAhead wM_X2_64 ⟨wN_X2_digitAhead, wS_X2_digitAhead, wI_X2, wC_X2_digitAhead⟩ ⟨rfl, rfl, Nat.le_of_ble_eq_true rfl, Nat.le_of_ble_eq_true rfl, Nat.le_of_ble_eq_true rfl, Nat.le_of_ble_eq_true rfl⟩ [0, 1] [] [0, 1] rfl [] rfl (by decide) [(hTX, .inr (1, [.ref hTXs, .int TXle, .int TXpo, .int TXfa, .int TXso, .int TXki, .int TXtu, .int TXce, .ref hTXc])), (hTXs, .inl (cC, 60, .inl TXsi))] rfl (by decide) 0 1 rfl rfl rfl rfl rfl (Nat.le_of_ble_eq_true rfl) dX2_readDigit_1 rfl ?_
  refine j_istore_n (lv' := [(2, .int r1), (0, .ref hTX), (1, .int p0)]) (pc' := 5) cx dX2_readDigit_4 (by decide) rfl rfl ?_
  refine j_aload_n (pc' := 6) cx 1 dX2_readDigit_5 rfl rfl ?_
  refine j_get (C := RX2) (T := TX2) (N := 9) (pc' := 9) cx uB_X2 0 rfl rfl 3 (by decide) wF_X2_22 (.int TXfa) rfl dX2_readDigit_6 rfl ?_
  refine j_if_ne (tgt := 21) (pc' := 12) cx dX2_readDigit_9 (by decide) rfl (fun ch_1 => ?_) (fun ch_1 => ?_)
  · have h_2 := it_f h_1 ch_1
    refine j_aload_n (pc' := 22) cx 1 dX2_readDigit_21 rfl rfl ?_
    refine j_iconst (pc' := 23) cx 1 dX2_readDigit_22 ki_1 rfl ?_
    refine j_put (C := RX2) (T := TX2) (N := 9) (ws' := [(hTX, .inr (1, [.ref hTXs, .int TXle, .int TXpo, .int 1, .int TXso, .int TXki, .int TXtu, .int TXce, .ref hTXc])), (hTXs, .inl (cC, 60, .inl TXsi))]) (pc' := 26) cx uB_X2 tyX2 tyX2_ok nmX2 0 rfl rfl 3 (by decide) wF_X2_22 rfl (by decide +kernel) (by decide +kernel) (Nat.le_of_ble_eq_true rfl) rfl dX2_readDigit_23 rfl ?_
    refine j_iconst (pc' := 27) cx 0 dX2_readDigit_26 ki_0 rfl ?_
    have h_3 := so_i h_2
    subst h_3
    exact j_ret cx (Or.inr (Or.inl ⟨_, _, rfl, rfl, dX2_readDigit_27, rfl, rfl⟩)) ⟨rfl, rfl⟩
  · have h_4 := it_t h_1 ch_1
    refine j_iload_n (pc' := 13) cx 0 dX2_readDigit_12 rfl rfl ?_
    refine j_if_lt (tgt := 21) (pc' := 16) cx dX2_readDigit_13 (by decide) rfl (fun ch_4 => ?_) (fun ch_4 => ?_)
    · have h_5 := it_t h_4 ch_4
      refine j_aload_n (pc' := 22) cx 1 dX2_readDigit_21 rfl rfl ?_
      refine j_iconst (pc' := 23) cx 1 dX2_readDigit_22 ki_1 rfl ?_
      refine j_put (C := RX2) (T := TX2) (N := 9) (ws' := [(hTX, .inr (1, [.ref hTXs, .int TXle, .int TXpo, .int 1, .int TXso, .int TXki, .int TXtu, .int TXce, .ref hTXc])), (hTXs, .inl (cC, 60, .inl TXsi))]) (pc' := 26) cx uB_X2 tyX2 tyX2_ok nmX2 0 rfl rfl 3 (by decide) wF_X2_22 rfl (by decide +kernel) (by decide +kernel) (Nat.le_of_ble_eq_true rfl) rfl dX2_readDigit_23 rfl ?_
      refine j_iconst (pc' := 27) cx 0 dX2_readDigit_26 ki_0 rfl ?_
      have h_6 := so_i h_5
      subst h_6
      exact j_ret cx (Or.inr (Or.inl ⟨_, _, rfl, rfl, dX2_readDigit_27, rfl, rfl⟩)) ⟨rfl, rfl⟩
    · have h_7 := it_f h_4 ch_4
      refine j_iload_n (pc' := 17) cx 0 dX2_readDigit_16 rfl rfl ?_
      refine j_iload_n (pc' := 18) cx 2 dX2_readDigit_17 rfl rfl ?_
      refine j_icmp_le (tgt := 28) (pc' := 21) cx dX2_readDigit_18 (by decide) rfl (fun ch_7 => ?_) (fun ch_7 => ?_)
      · have h_8 := it_t h_7 ch_7
        refine j_aload_n (pc' := 29) cx 1 dX2_readDigit_28 rfl rfl ?_
        refine j_dup (pc' := 30) cx dX2_readDigit_29 rfl rfl ?_
        refine j_get (C := RX2) (T := TX2) (N := 9) (pc' := 33) cx uB_X2 0 rfl rfl 2 (by decide) wF_X2_19 (.int TXpo) rfl dX2_readDigit_30 rfl ?_
        refine j_iconst (pc' := 34) cx 1 dX2_readDigit_33 ki_1 rfl ?_
        refine j_iadd (pc' := 35) cx dX2_readDigit_34 rfl ?_
        refine j_put (C := RX2) (T := TX2) (N := 9) (ws' := [(hTX, .inr (1, [.ref hTXs, .int TXle, .int (TXpo + 1), .int TXfa, .int TXso, .int TXki, .int TXtu, .int TXce, .ref hTXc])), (hTXs, .inl (cC, 60, .inl TXsi))]) (pc' := 38) cx uB_X2 tyX2 tyX2_ok nmX2 0 rfl rfl 2 (by decide) wF_X2_19 rfl rfl rfl (Nat.le_of_ble_eq_true rfl) rfl dX2_readDigit_35 rfl ?_
        refine j_iload_n (pc' := 39) cx 0 dX2_readDigit_38 rfl rfl ?_
        have h_9 := so_i h_8
        subst h_9
        exact j_ret cx (Or.inr (Or.inl ⟨_, _, rfl, rfl, dX2_readDigit_39, rfl, rfl⟩)) ⟨rfl, rfl⟩
      · have h_10 := it_f h_7 ch_7
        refine j_aload_n (pc' := 22) cx 1 dX2_readDigit_21 rfl rfl ?_
        refine j_iconst (pc' := 23) cx 1 dX2_readDigit_22 ki_1 rfl ?_
        refine j_put (C := RX2) (T := TX2) (N := 9) (ws' := [(hTX, .inr (1, [.ref hTXs, .int TXle, .int TXpo, .int 1, .int TXso, .int TXki, .int TXtu, .int TXce, .ref hTXc])), (hTXs, .inl (cC, 60, .inl TXsi))]) (pc' := 26) cx uB_X2 tyX2 tyX2_ok nmX2 0 rfl rfl 3 (by decide) wF_X2_22 rfl (by decide +kernel) (by decide +kernel) (Nat.le_of_ble_eq_true rfl) rfl dX2_readDigit_23 rfl ?_
        refine j_iconst (pc' := 27) cx 0 dX2_readDigit_26 ki_0 rfl ?_
        have h_11 := so_i h_10
        subst h_11
        exact j_ret cx (Or.inr (Or.inl ⟨_, _, rfl, rfl, dX2_readDigit_27, rfl, rfl⟩)) ⟨rfl, rfl⟩
set_option maxHeartbeats 4000000 in
set_option maxRecDepth 100000 in
theorem c_X2_readSign (l : Launch) (D : va_G) (cI cZ cC cS : ClassId) (hTX hTXs hTXc : Nat) (TXle : Int32) (TXpo : Int32) (TXfa : Int32) (TXso : Int32) (TXki : Int32) (TXtu : Int32) (TXce : Int32) (TXsi : Nat → Int32) (p0 : Int32) (out : Int32 × Int32) (hm : f_X2_readSign TXle TXpo TXfa TXsi p0 = some out) : Ct l yX2_readSign cX2_readSign 2 none ({ frames := 0, cells := 0, slots := 0, locals := 0 }) (D, TY cI cZ cC cS) [.ref hTX, .int p0] [(hTX, .inr (1, [.ref hTXs, .int TXle, .int TXpo, .int TXfa, .int TXso, .int TXki, .int TXtu, .int TXce, .ref hTXc])), (hTXs, .inl (cC, 60, .inl TXsi))] (jw_P none [(hTX, .inr (1, [.ref hTXs, .int TXle, .int out.1, .int out.2, .int TXso, .int TXki, .int TXtu, .int TXce, .ref hTXc])), (hTXs, .inl (cC, 60, .inl TXsi))]) 0 0 := by
  refine ct_of RX2 (by decide +kernel) rfl (Nat.le_of_ble_eq_true rfl) (fun j cx => ?_)
  unfold f_X2_readSign at hm
  show j 0 0 [(hTX, .inr (1, [.ref hTXs, .int TXle, .int TXpo, .int TXfa, .int TXso, .int TXki, .int TXtu, .int TXce, .ref hTXc])), (hTXs, .inl (cC, 60, .inl TXsi))] [(0, .ref hTX), (1, .int p0)] 0 []
  refine j_aload_n (pc' := 1) cx 0 dX2_readSign_0 rfl rfl ?_
  refine j_get (C := RX2) (T := TX2) (N := 9) (pc' := 4) cx uB_X2 0 rfl rfl 3 (by decide) wF_X2_22 (.int TXfa) rfl dX2_readSign_1 rfl ?_
  obtain ⟨t2, h_2, h_1⟩ := bd_s hm
  have Kt2 : j 0 0 [(hTX, .inr (1, [.ref hTXs, .int TXle, .int t2.1, .int t2.2, .int TXso, .int TXki, .int TXtu, .int TXce, .ref hTXc])), (hTXs, .inl (cC, 60, .inl TXsi))] [] 49 [] := by
    have h_3 := so_i h_1
    subst h_3
    exact j_ret cx (Or.inl ⟨rfl, dX2_readSign_49, rfl, rfl⟩) ⟨rfl, rfl⟩
  refine j_if_ne (tgt := 44) (pc' := 7) cx dX2_readSign_4 (by decide) rfl (fun ch_2 => ?_) (fun ch_2 => ?_)
  · have h_4 := it_f h_2 ch_2
    refine j_aload_n (pc' := 45) cx 0 dX2_readSign_44 rfl rfl ?_
    refine j_iconst (pc' := 46) cx 1 dX2_readSign_45 ki_1 rfl ?_
    refine j_put (C := RX2) (T := TX2) (N := 9) (ws' := [(hTX, .inr (1, [.ref hTXs, .int TXle, .int TXpo, .int 1, .int TXso, .int TXki, .int TXtu, .int TXce, .ref hTXc])), (hTXs, .inl (cC, 60, .inl TXsi))]) (pc' := 49) cx uB_X2 tyX2 tyX2_ok nmX2 0 rfl rfl 3 (by decide) wF_X2_22 rfl (by decide +kernel) (by decide +kernel) (Nat.le_of_ble_eq_true rfl) rfl dX2_readSign_46 rfl ?_
    have h_5 := so_i h_4
    subst h_5
    refine j_lv (lv' := []) cx [] rfl ?_
    exact Kt2
  · have h_6 := it_t h_2 ch_2
    refine j_aload_n (pc' := 8) cx 0 dX2_readSign_7 rfl rfl ?_
    refine j_get (C := RX2) (T := TX2) (N := 9) (pc' := 11) cx uB_X2 0 rfl rfl 2 (by decide) wF_X2_19 (.int TXpo) rfl dX2_readSign_8 rfl ?_
    refine j_aload_n (pc' := 12) cx 0 dX2_readSign_11 rfl rfl ?_
    refine j_get (C := RX2) (T := TX2) (N := 9) (pc' := 15) cx uB_X2 0 rfl rfl 1 (by decide) wF_X2_15 (.int TXle) rfl dX2_readSign_12 rfl ?_
    refine j_icmp_ge (tgt := 44) (pc' := 18) cx dX2_readSign_15 (by decide) rfl (fun ch_6 => ?_) (fun ch_6 => ?_)
    · have h_7 := it_t h_6 ch_6
      refine j_aload_n (pc' := 45) cx 0 dX2_readSign_44 rfl rfl ?_
      refine j_iconst (pc' := 46) cx 1 dX2_readSign_45 ki_1 rfl ?_
      refine j_put (C := RX2) (T := TX2) (N := 9) (ws' := [(hTX, .inr (1, [.ref hTXs, .int TXle, .int TXpo, .int 1, .int TXso, .int TXki, .int TXtu, .int TXce, .ref hTXc])), (hTXs, .inl (cC, 60, .inl TXsi))]) (pc' := 49) cx uB_X2 tyX2 tyX2_ok nmX2 0 rfl rfl 3 (by decide) wF_X2_22 rfl (by decide +kernel) (by decide +kernel) (Nat.le_of_ble_eq_true rfl) rfl dX2_readSign_46 rfl ?_
      have h_8 := so_i h_7
      subst h_8
      refine j_lv (lv' := []) cx [] rfl ?_
      exact Kt2
    · have h_9 := it_f h_6 ch_6
      refine j_aload_n (pc' := 19) cx 0 dX2_readSign_18 rfl rfl ?_
      refine j_get (C := RX2) (T := TX2) (N := 9) (pc' := 22) cx uB_X2 0 rfl rfl 0 (by decide) wF_X2_9 (.ref hTXs) rfl dX2_readSign_19 rfl ?_
      refine j_aload_n (pc' := 23) cx 0 dX2_readSign_22 rfl rfl ?_
      refine j_get (C := RX2) (T := TX2) (N := 9) (pc' := 26) cx uB_X2 0 rfl rfl 2 (by decide) wF_X2_19 (.int TXpo) rfl dX2_readSign_23 rfl ?_
      obtain ⟨i1, h_10⟩ := ck_s h_9
      refine j_cald (pc' := 27) cx 1 2 rfl rfl i1 dX2_readSign_26 rfl ?_
      refine j_iload_n (pc' := 28) cx 1 dX2_readSign_27 rfl rfl ?_
      refine j_icmp_ne (tgt := 44) (pc' := 31) cx dX2_readSign_28 (by decide) rfl (fun ch_10 => ?_) (fun ch_10 => ?_)
      · have h_11 := it_f h_10 ch_10
        refine j_aload_n (pc' := 45) cx 0 dX2_readSign_44 rfl rfl ?_
        refine j_iconst (pc' := 46) cx 1 dX2_readSign_45 ki_1 rfl ?_
        refine j_put (C := RX2) (T := TX2) (N := 9) (ws' := [(hTX, .inr (1, [.ref hTXs, .int TXle, .int TXpo, .int 1, .int TXso, .int TXki, .int TXtu, .int TXce, .ref hTXc])), (hTXs, .inl (cC, 60, .inl TXsi))]) (pc' := 49) cx uB_X2 tyX2 tyX2_ok nmX2 0 rfl rfl 3 (by decide) wF_X2_22 rfl (by decide +kernel) (by decide +kernel) (Nat.le_of_ble_eq_true rfl) rfl dX2_readSign_46 rfl ?_
        have h_12 := so_i h_11
        subst h_12
        refine j_lv (lv' := []) cx [] rfl ?_
        exact Kt2
      · have h_13 := it_t h_10 ch_10
        refine j_aload_n (pc' := 32) cx 0 dX2_readSign_31 rfl rfl ?_
        refine j_dup (pc' := 33) cx dX2_readSign_32 rfl rfl ?_
        refine j_get (C := RX2) (T := TX2) (N := 9) (pc' := 36) cx uB_X2 0 rfl rfl 2 (by decide) wF_X2_19 (.int TXpo) rfl dX2_readSign_33 rfl ?_
        refine j_iconst (pc' := 37) cx 1 dX2_readSign_36 ki_1 rfl ?_
        refine j_iadd (pc' := 38) cx dX2_readSign_37 rfl ?_
        refine j_put (C := RX2) (T := TX2) (N := 9) (ws' := [(hTX, .inr (1, [.ref hTXs, .int TXle, .int (TXpo + 1), .int TXfa, .int TXso, .int TXki, .int TXtu, .int TXce, .ref hTXc])), (hTXs, .inl (cC, 60, .inl TXsi))]) (pc' := 41) cx uB_X2 tyX2 tyX2_ok nmX2 0 rfl rfl 2 (by decide) wF_X2_19 rfl rfl rfl (Nat.le_of_ble_eq_true rfl) rfl dX2_readSign_38 rfl ?_
        refine j_goto (pc' := 49) cx dX2_readSign_41 (by decide) ?_
        have h_14 := so_i h_13
        subst h_14
        refine j_lv (lv' := []) cx [] rfl ?_
        exact Kt2
set_option maxHeartbeats 4000000 in
set_option maxRecDepth 100000 in
theorem c_X2_readCellNumber (l : Launch) (D : va_G) (cI cZ cC cS : ClassId) (hTX hTXs hTXc : Nat) (TXle : Int32) (TXpo : Int32) (TXfa : Int32) (TXso : Int32) (TXki : Int32) (TXtu : Int32) (TXce : Int32) (TXsi : Nat → Int32) (out : Int32 × Int32 × Int32) (hm : f_X2_readCellNumber TXle TXpo TXfa TXsi = some out) : Ct l yX2_readCellNumber cX2_readCellNumber 4 (some .int) ({ frames := 2, cells := 0, slots := 0, locals := 43 }) (D, TY cI cZ cC cS) [.ref hTX] [(hTX, .inr (1, [.ref hTXs, .int TXle, .int TXpo, .int TXfa, .int TXso, .int TXki, .int TXtu, .int TXce, .ref hTXc])), (hTXs, .inl (cC, 60, .inl TXsi))] (jw_P (some (.int out.1)) [(hTX, .inr (1, [.ref hTXs, .int TXle, .int out.2.1, .int out.2.2, .int TXso, .int TXki, .int TXtu, .int TXce, .ref hTXc])), (hTXs, .inl (cC, 60, .inl TXsi))]) 0 0 := by
  refine ct_of RX2 (by decide +kernel) rfl (Nat.le_of_ble_eq_true rfl) (fun j cx => ?_)
  unfold f_X2_readCellNumber at hm
  show j 0 0 [(hTX, .inr (1, [.ref hTXs, .int TXle, .int TXpo, .int TXfa, .int TXso, .int TXki, .int TXtu, .int TXce, .ref hTXc])), (hTXs, .inl (cC, 60, .inl TXsi))] [(0, .ref hTX)] 0 []
  refine j_aload_n (pc' := 1) cx 0 dX2_readCellNumber_0 rfl rfl ?_
  refine j_bipush (pc' := 3) cx 9 dX2_readCellNumber_1 kb_9 rfl ?_
  obtain ⟨r1, c2, h_1⟩ := bd_s hm
  refine j_cV (pc' := 6) cx (c_X2_readDigit l D cI cZ cC cS hTX hTXs hTXc TXle TXpo TXfa TXso TXki TXtu TXce TXsi 9 r1 c2) 1 yk_X2_readDigit wM_X2_52 ⟨wN_X2_readDigit, wS_X2_readDigit, wI_X2, wC_X2_readDigit⟩ ⟨rfl, rfl, Nat.le_of_ble_eq_true rfl, Nat.le_of_ble_eq_true rfl, Nat.le_of_ble_eq_true rfl, Nat.le_of_ble_eq_true rfl⟩ [0, 1] [] [0, 1] rfl [] rfl (by decide) [(hTX, .inr (1, [.ref hTXs, .int TXle, .int r1.2.1, .int r1.2.2, .int TXso, .int TXki, .int TXtu, .int TXce, .ref hTXc])), (hTXs, .inl (cC, 60, .inl TXsi))] rfl (by decide) 0 1 rfl rfl rfl rfl rfl (Nat.le_of_ble_eq_true rfl) dX2_readCellNumber_3 rfl ?_
  refine j_istore_n (lv' := [(1, .int r1.1), (0, .ref hTX)]) (pc' := 7) cx dX2_readCellNumber_6 (by decide) rfl rfl ?_
  refine j_iconst (pc' := 8) cx 0 dX2_readCellNumber_7 ki_0 rfl ?_
  refine j_istore_n (lv' := [(2, .int 0), (1, .int r1.1), (0, .ref hTX)]) (pc' := 9) cx dX2_readCellNumber_8 (by decide) rfl rfl ?_
  obtain ⟨e4, h_2, h_3⟩ := bd_s h_1
  have KXe4 : j 0 0 [(hTX, .inr (1, [.ref hTXs, .int TXle, .int e4.2.2, .int r1.2.2, .int TXso, .int TXki, .int TXtu, .int TXce, .ref hTXc])), (hTXs, .inl (cC, 60, .inl TXsi))] [(1, .int e4.1)] 72 [] := by
    refine j_iload_n (pc' := 73) cx 0 dX2_readCellNumber_72 rfl rfl ?_
    have h_4 := so_i h_3
    subst h_4
    exact j_ret cx (Or.inr (Or.inl ⟨_, _, rfl, rfl, dX2_readCellNumber_73, rfl, rfl⟩)) ⟨rfl, rfl⟩
  have LPe4 : ∀ (n : Nat) (s3 : Int32 × Int32 × Int32), lp (f_X2_readCellNumber_b1 TXle TXsi r1) n s3 = some e4 → j 0 0 [(hTX, .inr (1, [.ref hTXs, .int TXle, .int s3.2.2, .int r1.2.2, .int TXso, .int TXki, .int TXtu, .int TXce, .ref hTXc])), (hTXs, .inl (cC, 60, .inl TXsi))] [(0, .ref hTX), (1, .int s3.1), (2, .int s3.2.1)] 9 [] := by
    intro n
    induction n with
    | zero => intro s3 z; exact absurd z (by intro z; cases z)
    | succ n ihe4 =>
      intro s3 h_5
      obtain ⟨q_6, h_7, h_8⟩ := bd_s h_5
      unfold f_X2_readCellNumber_b1 at h_7
      refine j_iload_n (pc' := 10) cx 2 dX2_readCellNumber_9 rfl rfl ?_
      refine j_iconst (pc' := 11) cx 2 dX2_readCellNumber_10 ki_2 rfl ?_
      refine j_icmp_ge (tgt := 72) (pc' := 14) cx dX2_readCellNumber_11 (by decide) rfl (fun ch_7 => ?_) (fun ch_7 => ?_)
      · have h_9 := it_t h_7 ch_7
        have h_10 := so_i h_9
        subst h_10
        have h_11 := so_i (se_r h_8)
        subst h_11
        refine j_lv (lv' := [(1, .int s3.1)]) cx [1] rfl ?_
        exact KXe4
      · have h_12 := it_f h_7 ch_7
        refine j_aload_n (pc' := 15) cx 0 dX2_readCellNumber_14 rfl rfl ?_
        refine j_get (C := RX2) (T := TX2) (N := 9) (pc' := 18) cx uB_X2 0 rfl rfl 3 (by decide) wF_X2_22 (.int r1.2.2) rfl dX2_readCellNumber_15 rfl ?_
        refine j_if_ne (tgt := 72) (pc' := 21) cx dX2_readCellNumber_18 (by decide) rfl (fun ch_12 => ?_) (fun ch_12 => ?_)
        · have h_13 := it_f h_12 ch_12
          have h_14 := so_i h_13
          subst h_14
          have h_15 := so_i (se_r h_8)
          subst h_15
          refine j_lv (lv' := [(1, .int s3.1)]) cx [1] rfl ?_
          exact KXe4
        · have h_16 := it_t h_12 ch_12
          refine j_iload_n (pc' := 22) cx 1 dX2_readCellNumber_21 rfl rfl ?_
          refine j_if_le (tgt := 72) (pc' := 25) cx dX2_readCellNumber_22 (by decide) rfl (fun ch_16 => ?_) (fun ch_16 => ?_)
          · have h_17 := it_t h_16 ch_16
            have h_18 := so_i h_17
            subst h_18
            have h_19 := so_i (se_r h_8)
            subst h_19
            refine j_lv (lv' := [(1, .int s3.1)]) cx [1] rfl ?_
            exact KXe4
          · have h_20 := it_f h_16 ch_16
            refine j_aload_n (pc' := 26) cx 0 dX2_readCellNumber_25 rfl rfl ?_
            obtain ⟨r5, c6, h_21⟩ := bd_s h_20
            refine j_cV (pc' := 29) cx (c_X2_digitAhead l D cI cZ cC cS hTX hTXs hTXc TXle s3.2.2 r1.2.2 TXso TXki TXtu TXce TXsi r5 c6) 0 yk_X2_digitAhead wM_X2_64 ⟨wN_X2_digitAhead, wS_X2_digitAhead, wI_X2, wC_X2_digitAhead⟩ ⟨rfl, rfl, Nat.le_of_ble_eq_true rfl, Nat.le_of_ble_eq_true rfl, Nat.le_of_ble_eq_true rfl, Nat.le_of_ble_eq_true rfl⟩ [0, 1] [] [0, 1] rfl [] rfl (by decide) [(hTX, .inr (1, [.ref hTXs, .int TXle, .int s3.2.2, .int r1.2.2, .int TXso, .int TXki, .int TXtu, .int TXce, .ref hTXc])), (hTXs, .inl (cC, 60, .inl TXsi))] rfl (by decide) 0 1 rfl rfl rfl rfl rfl (Nat.le_of_ble_eq_true rfl) dX2_readCellNumber_26 rfl ?_
            refine j_istore_n (lv' := [(3, .int r5), (0, .ref hTX), (1, .int s3.1), (2, .int s3.2.1)]) (pc' := 30) cx dX2_readCellNumber_29 (by decide) rfl rfl ?_
            refine j_iload_n (pc' := 31) cx 0 dX2_readCellNumber_30 rfl rfl ?_
            refine j_if_lt (tgt := 72) (pc' := 34) cx dX2_readCellNumber_31 (by decide) rfl (fun ch_21 => ?_) (fun ch_21 => ?_)
            · have h_22 := it_t h_21 ch_21
              have h_23 := so_i h_22
              subst h_23
              have h_24 := so_i (se_r h_8)
              subst h_24
              refine j_lv (lv' := [(1, .int s3.1)]) cx [2] rfl ?_
              exact KXe4
            · have h_25 := it_f h_21 ch_21
              refine j_bipush (pc' := 36) cx 10 dX2_readCellNumber_34 kb_10 rfl ?_
              refine j_iload_n (pc' := 37) cx 2 dX2_readCellNumber_36 rfl rfl ?_
              refine j_imul (pc' := 38) cx dX2_readCellNumber_37 rfl ?_
              refine j_iload_n (pc' := 39) cx 0 dX2_readCellNumber_38 rfl rfl ?_
              refine j_iadd (pc' := 40) cx dX2_readCellNumber_39 rfl ?_
              refine j_sipush (pc' := 43) cx 150 dX2_readCellNumber_40 ks_150 rfl ?_
              refine j_icmp_lt (tgt := 49) (pc' := 46) cx dX2_readCellNumber_43 (by decide) rfl (fun ch_25 => ?_) (fun ch_25 => ?_)
              · have h_26 := it_t h_25 ch_25
                refine j_bipush (pc' := 51) cx 10 dX2_readCellNumber_49 kb_10 rfl ?_
                refine j_iload_n (pc' := 52) cx 2 dX2_readCellNumber_51 rfl rfl ?_
                refine j_imul (pc' := 53) cx dX2_readCellNumber_52 rfl ?_
                refine j_iload_n (pc' := 54) cx 0 dX2_readCellNumber_53 rfl rfl ?_
                refine j_iadd (pc' := 55) cx dX2_readCellNumber_54 rfl ?_
                refine j_istore_n (lv' := [(1, .int ((10 * s3.1) + r5)), (3, .int r5), (0, .ref hTX), (2, .int s3.2.1)]) (pc' := 56) cx dX2_readCellNumber_55 (by decide) rfl rfl ?_
                refine j_aload_n (pc' := 57) cx 2 dX2_readCellNumber_56 rfl rfl ?_
                refine j_dup (pc' := 58) cx dX2_readCellNumber_57 rfl rfl ?_
                refine j_get (C := RX2) (T := TX2) (N := 9) (pc' := 61) cx uB_X2 0 rfl rfl 2 (by decide) wF_X2_19 (.int s3.2.2) rfl dX2_readCellNumber_58 rfl ?_
                refine j_iconst (pc' := 62) cx 1 dX2_readCellNumber_61 ki_1 rfl ?_
                refine j_iadd (pc' := 63) cx dX2_readCellNumber_62 rfl ?_
                refine j_put (C := RX2) (T := TX2) (N := 9) (ws' := [(hTX, .inr (1, [.ref hTXs, .int TXle, .int (s3.2.2 + 1), .int r1.2.2, .int TXso, .int TXki, .int TXtu, .int TXce, .ref hTXc])), (hTXs, .inl (cC, 60, .inl TXsi))]) (pc' := 66) cx uB_X2 tyX2 tyX2_ok nmX2 0 rfl rfl 2 (by decide) wF_X2_19 rfl rfl rfl (Nat.le_of_ble_eq_true rfl) rfl dX2_readCellNumber_63 rfl ?_
                refine j_iinc (v := (s3.2.1 + 1)) (lv' := [(2, .int (s3.2.1 + 1)), (1, .int ((10 * s3.1) + r5)), (3, .int r5), (0, .ref hTX)]) (pc' := 69) cx 3 dX2_readCellNumber_66 rfl (kn_1 _) (by decide) rfl rfl ?_
                refine j_goto (pc' := 9) cx dX2_readCellNumber_69 (by decide) ?_
                have h_27 := so_i h_26
                subst h_27
                refine j_lv (lv' := [(0, .ref hTX), (1, .int ((10 * s3.1) + r5)), (2, .int (s3.2.1 + 1))]) cx [3, 1, 0] rfl ?_
                exact ihe4 _ (se_l h_8)
              · have h_28 := it_f h_25 ch_25
                refine j_goto (pc' := 72) cx dX2_readCellNumber_46 (by decide) ?_
                have h_29 := so_i h_28
                subst h_29
                have h_30 := so_i (se_r h_8)
                subst h_30
                refine j_lv (lv' := [(1, .int s3.1)]) cx [2] rfl ?_
                exact KXe4
  refine j_lv (lv' := [(0, .ref hTX), (1, .int r1.1), (2, .int 0)]) cx [2, 1, 0] rfl ?_
  exact LPe4 _ _ h_2
set_option maxHeartbeats 4000000 in
set_option maxRecDepth 100000 in
theorem c_X2_readOrder (l : Launch) (D : va_G) (cI cZ cC cS : ClassId) (hTX hTXs hTXc : Nat) (TXle : Int32) (TXpo : Int32) (TXfa : Int32) (TXso : Int32) (TXki : Int32) (TXtu : Int32) (TXce : Int32) (TXsi : Nat → Int32) (TXcl : Nat → Int32) (out : Int32 × Int32 × Int32 × Int32 × Int32 × Int32 × (Nat → Int32)) (hm : f_X2_readOrder TXle TXpo TXfa TXso TXki TXtu TXce TXsi TXcl = some out) : Ct l yX2_readOrder cX2_readOrder 2 none ({ frames := 3, cells := 0, slots := 0, locals := 66 }) (D, TY cI cZ cC cS) [.ref hTX] [(hTX, .inr (1, [.ref hTXs, .int TXle, .int TXpo, .int TXfa, .int TXso, .int TXki, .int TXtu, .int TXce, .ref hTXc])), (hTXs, .inl (cC, 60, .inl TXsi)), (hTXc, .inl (cI, 4, .inl TXcl))] (jw_P none [(hTX, .inr (1, [.ref hTXs, .int TXle, .int out.1, .int out.2.1, .int out.2.2.1, .int out.2.2.2.1, .int out.2.2.2.2.1, .int out.2.2.2.2.2.1, .ref hTXc])), (hTXs, .inl (cC, 60, .inl TXsi)), (hTXc, .inl (cI, 4, .inl out.2.2.2.2.2.2))]) 0 0 := by
  refine ct_of RX2 (by decide +kernel) rfl (Nat.le_of_ble_eq_true rfl) (fun j cx => ?_)
  unfold f_X2_readOrder at hm
  show j 0 0 [(hTX, .inr (1, [.ref hTXs, .int TXle, .int TXpo, .int TXfa, .int TXso, .int TXki, .int TXtu, .int TXce, .ref hTXc])), (hTXs, .inl (cC, 60, .inl TXsi)), (hTXc, .inl (cI, 4, .inl TXcl))] [(0, .ref hTX)] 0 []
  refine j_aload_n (pc' := 1) cx 0 dX2_readOrder_0 rfl rfl ?_
  refine j_aload_n (pc' := 2) cx 0 dX2_readOrder_1 rfl rfl ?_
  refine j_get (C := RX2) (T := TX2) (N := 9) (pc' := 5) cx uB_X2 0 rfl rfl 2 (by decide) wF_X2_19 (.int TXpo) rfl dX2_readOrder_2 rfl ?_
  refine j_aload_n (pc' := 6) cx 0 dX2_readOrder_5 rfl rfl ?_
  refine j_get (C := RX2) (T := TX2) (N := 9) (pc' := 9) cx uB_X2 0 rfl rfl 1 (by decide) wF_X2_15 (.int TXle) rfl dX2_readOrder_6 rfl ?_
  obtain ⟨t2, h_2, h_1⟩ := bd_s hm
  have Kt2 : j 0 0 [(hTX, .inr (1, [.ref hTXs, .int TXle, .int TXpo, .int TXfa, .int TXso, .int TXki, .int TXtu, .int TXce, .ref hTXc])), (hTXs, .inl (cC, 60, .inl TXsi)), (hTXc, .inl (cI, 4, .inl TXcl))] [(0, .ref hTX)] 26 [.int t2, .ref hTX] := by
    obtain ⟨b3, h_3⟩ := ckP_s h_1
    refine j_put (C := RX2) (T := TX2) (N := 9) (ws' := [(hTX, .inr (1, [.ref hTXs, .int TXle, .int TXpo, .int TXfa, .int t2, .int TXki, .int TXtu, .int TXce, .ref hTXc])), (hTXs, .inl (cC, 60, .inl TXsi)), (hTXc, .inl (cI, 4, .inl TXcl))]) (pc' := 29) cx uB_X2 tyX2 tyX2_ok nmX2 0 rfl rfl 4 (by decide) wF_X2_26 rfl (nc_n b3) (nc_f b3) (Nat.le_of_ble_eq_true rfl) rfl dX2_readOrder_26 rfl ?_
    refine j_aload_n (pc' := 30) cx 0 dX2_readOrder_29 rfl rfl ?_
    refine j_get (C := RX2) (T := TX2) (N := 9) (pc' := 33) cx uB_X2 0 rfl rfl 4 (by decide) wF_X2_26 (.int t2) rfl dX2_readOrder_30 rfl ?_
    obtain ⟨t23, h_5, h_4⟩ := bd_s h_3
    have Kt23 : j 0 0 [(hTX, .inr (1, [.ref hTXs, .int TXle, .int t23.1, .int t23.2.1, .int t2, .int t23.2.2.1, .int t23.2.2.2.1, .int t23.2.2.2.2.1, .ref hTXc])), (hTXs, .inl (cC, 60, .inl TXsi)), (hTXc, .inl (cI, 4, .inl t23.2.2.2.2.2))] [] 193 [] := by
      have h_6 := so_i h_4
      subst h_6
      exact j_ret cx (Or.inl ⟨rfl, dX2_readOrder_193, rfl, rfl⟩) ⟨rfl, rfl⟩
    by_cases k_7 : t2 = 43
    · have h_8 := it_t h_5 k_7
      refine j_look (tgt := 122) (off := 89) cx dX2_readOrder_33 (by decide +kernel) (jw_lk k_7 (by decide +kernel)) (by decide) ?_
      refine j_aload_n (pc' := 123) cx 0 dX2_readOrder_122 rfl rfl ?_
      refine j_dup (pc' := 124) cx dX2_readOrder_123 rfl rfl ?_
      refine j_get (C := RX2) (T := TX2) (N := 9) (pc' := 127) cx uB_X2 0 rfl rfl 2 (by decide) wF_X2_19 (.int TXpo) rfl dX2_readOrder_124 rfl ?_
      refine j_iconst (pc' := 128) cx 1 dX2_readOrder_127 ki_1 rfl ?_
      refine j_iadd (pc' := 129) cx dX2_readOrder_128 rfl ?_
      refine j_put (C := RX2) (T := TX2) (N := 9) (ws' := [(hTX, .inr (1, [.ref hTXs, .int TXle, .int (TXpo + 1), .int TXfa, .int t2, .int TXki, .int TXtu, .int TXce, .ref hTXc])), (hTXs, .inl (cC, 60, .inl TXsi)), (hTXc, .inl (cI, 4, .inl TXcl))]) (pc' := 132) cx uB_X2 tyX2 tyX2_ok nmX2 0 rfl rfl 2 (by decide) wF_X2_19 rfl rfl rfl (Nat.le_of_ble_eq_true rfl) rfl dX2_readOrder_129 rfl ?_
      refine j_aload_n (pc' := 133) cx 0 dX2_readOrder_132 rfl rfl ?_
      refine j_aload_n (pc' := 134) cx 0 dX2_readOrder_133 rfl rfl ?_
      refine j_iconst (pc' := 135) cx 5 dX2_readOrder_134 ki_5 rfl ?_
      obtain ⟨r4, c5, h_9⟩ := bd_s h_8
      refine j_cV (pc' := 138) cx (c_X2_readDigit l D cI cZ cC cS hTX hTXs hTXc TXle (TXpo + 1) TXfa t2 TXki TXtu TXce TXsi 5 r4 c5) 1 yk_X2_readDigit wM_X2_52 ⟨wN_X2_readDigit, wS_X2_readDigit, wI_X2, wC_X2_readDigit⟩ ⟨rfl, rfl, Nat.le_of_ble_eq_true rfl, Nat.le_of_ble_eq_true rfl, Nat.le_of_ble_eq_true rfl, Nat.le_of_ble_eq_true rfl⟩ [0, 1] [2] [1, 2, 0] rfl [(hTXc, .inl (cI, 4, .inl TXcl))] rfl (by decide) [(hTX, .inr (1, [.ref hTXs, .int TXle, .int r4.2.1, .int r4.2.2, .int t2, .int TXki, .int TXtu, .int TXce, .ref hTXc])), (hTXs, .inl (cC, 60, .inl TXsi)), (hTXc, .inl (cI, 4, .inl TXcl))] rfl (by decide) 0 1 rfl rfl rfl rfl rfl (Nat.le_of_ble_eq_true rfl) dX2_readOrder_135 rfl ?_
      refine j_put (C := RX2) (T := TX2) (N := 9) (ws' := [(hTX, .inr (1, [.ref hTXs, .int TXle, .int r4.2.1, .int r4.2.2, .int t2, .int r4.1, .int TXtu, .int TXce, .ref hTXc])), (hTXs, .inl (cC, 60, .inl TXsi)), (hTXc, .inl (cI, 4, .inl TXcl))]) (pc' := 141) cx uB_X2 tyX2 tyX2_ok nmX2 0 rfl rfl 5 (by decide) wF_X2_30 rfl rfl rfl (Nat.le_of_ble_eq_true rfl) rfl dX2_readOrder_138 rfl ?_
      refine j_aload_n (pc' := 142) cx 0 dX2_readOrder_141 rfl rfl ?_
      refine j_aload_n (pc' := 143) cx 0 dX2_readOrder_142 rfl rfl ?_
      refine j_iconst (pc' := 144) cx 3 dX2_readOrder_143 ki_3 rfl ?_
      obtain ⟨r6, c7, h_10⟩ := bd_s h_9
      refine j_cV (pc' := 147) cx (c_X2_readDigit l D cI cZ cC cS hTX hTXs hTXc TXle r4.2.1 r4.2.2 t2 r4.1 TXtu TXce TXsi 3 r6 c7) 1 yk_X2_readDigit wM_X2_52 ⟨wN_X2_readDigit, wS_X2_readDigit, wI_X2, wC_X2_readDigit⟩ ⟨rfl, rfl, Nat.le_of_ble_eq_true rfl, Nat.le_of_ble_eq_true rfl, Nat.le_of_ble_eq_true rfl, Nat.le_of_ble_eq_true rfl⟩ [0, 1] [2] [1, 2, 0] rfl [(hTXc, .inl (cI, 4, .inl TXcl))] rfl (by decide) [(hTX, .inr (1, [.ref hTXs, .int TXle, .int r6.2.1, .int r6.2.2, .int t2, .int r4.1, .int TXtu, .int TXce, .ref hTXc])), (hTXs, .inl (cC, 60, .inl TXsi)), (hTXc, .inl (cI, 4, .inl TXcl))] rfl (by decide) 0 1 rfl rfl rfl rfl rfl (Nat.le_of_ble_eq_true rfl) dX2_readOrder_144 rfl ?_
      refine j_put (C := RX2) (T := TX2) (N := 9) (ws' := [(hTX, .inr (1, [.ref hTXs, .int TXle, .int r6.2.1, .int r6.2.2, .int t2, .int r4.1, .int r6.1, .int TXce, .ref hTXc])), (hTXs, .inl (cC, 60, .inl TXsi)), (hTXc, .inl (cI, 4, .inl TXcl))]) (pc' := 150) cx uB_X2 tyX2 tyX2_ok nmX2 0 rfl rfl 6 (by decide) wF_X2_33 rfl rfl rfl (Nat.le_of_ble_eq_true rfl) rfl dX2_readOrder_147 rfl ?_
      refine j_aload_n (pc' := 151) cx 0 dX2_readOrder_150 rfl rfl ?_
      refine j_bipush (pc' := 153) cx 64 dX2_readOrder_151 kb_64 rfl ?_
      obtain ⟨r8, c9, h_11⟩ := bd_s h_10
      refine j_cV (pc' := 156) cx (c_X2_readSign l D cI cZ cC cS hTX hTXs hTXc TXle r6.2.1 r6.2.2 t2 r4.1 r6.1 TXce TXsi 64 r8 c9) 1 yk_X2_readSign wM_X2_56 ⟨wN_X2_readSign, wS_X2_readSign, wI_X2, wC_X2_readSign⟩ ⟨rfl, rfl, Nat.le_of_ble_eq_true rfl, Nat.le_of_ble_eq_true rfl, Nat.le_of_ble_eq_true rfl, Nat.le_of_ble_eq_true rfl⟩ [0, 1] [2] [1, 2, 0] rfl [(hTXc, .inl (cI, 4, .inl TXcl))] rfl (by decide) [(hTX, .inr (1, [.ref hTXs, .int TXle, .int r8.1, .int r8.2, .int t2, .int r4.1, .int r6.1, .int TXce, .ref hTXc])), (hTXs, .inl (cC, 60, .inl TXsi)), (hTXc, .inl (cI, 4, .inl TXcl))] rfl (by decide) 0 1 rfl rfl rfl rfl rfl (Nat.le_of_ble_eq_true rfl) dX2_readOrder_153 rfl ?_
      refine j_aload_n (pc' := 157) cx 0 dX2_readOrder_156 rfl rfl ?_
      refine j_aload_n (pc' := 158) cx 0 dX2_readOrder_157 rfl rfl ?_
      obtain ⟨r10, c11, h_12⟩ := bd_s h_11
      refine j_cV (pc' := 161) cx (c_X2_readCellNumber l D cI cZ cC cS hTX hTXs hTXc TXle r8.1 r8.2 t2 r4.1 r6.1 TXce TXsi r10 c11) 0 yk_X2_readCellNumber wM_X2_60 ⟨wN_X2_readCellNumber, wS_X2_readCellNumber, wI_X2, wC_X2_readCellNumber⟩ ⟨rfl, rfl, Nat.le_of_ble_eq_true rfl, Nat.le_of_ble_eq_true rfl, Nat.le_of_ble_eq_true rfl, Nat.le_of_ble_eq_true rfl⟩ [0, 1] [2] [1, 2, 0] rfl [(hTXc, .inl (cI, 4, .inl TXcl))] rfl (by decide) [(hTX, .inr (1, [.ref hTXs, .int TXle, .int r10.2.1, .int r10.2.2, .int t2, .int r4.1, .int r6.1, .int TXce, .ref hTXc])), (hTXs, .inl (cC, 60, .inl TXsi)), (hTXc, .inl (cI, 4, .inl TXcl))] rfl (by decide) 0 1 rfl rfl rfl rfl rfl (Nat.le_of_ble_eq_true rfl) dX2_readOrder_158 rfl ?_
      refine j_put (C := RX2) (T := TX2) (N := 9) (ws' := [(hTX, .inr (1, [.ref hTXs, .int TXle, .int r10.2.1, .int r10.2.2, .int t2, .int r4.1, .int r6.1, .int r10.1, .ref hTXc])), (hTXs, .inl (cC, 60, .inl TXsi)), (hTXc, .inl (cI, 4, .inl TXcl))]) (pc' := 164) cx uB_X2 tyX2 tyX2_ok nmX2 0 rfl rfl 7 (by decide) wF_X2_36 rfl rfl rfl (Nat.le_of_ble_eq_true rfl) rfl dX2_readOrder_161 rfl ?_
      refine j_goto (pc' := 193) cx dX2_readOrder_164 (by decide) ?_
      have h_13 := so_i h_12
      subst h_13
      refine j_lv (lv' := []) cx [] rfl ?_
      exact Kt23
    · have h_14 := it_f h_5 k_7
      by_cases k_15 : t2 = 45
      · have h_16 := it_t h_14 k_15
        refine j_look (tgt := 167) (off := 134) cx dX2_readOrder_33 (by decide +kernel) (jw_lk k_15 (by decide +kernel)) (by decide) ?_
        refine j_aload_n (pc' := 168) cx 0 dX2_readOrder_167 rfl rfl ?_
        refine j_dup (pc' := 169) cx dX2_readOrder_168 rfl rfl ?_
        refine j_get (C := RX2) (T := TX2) (N := 9) (pc' := 172) cx uB_X2 0 rfl rfl 2 (by decide) wF_X2_19 (.int TXpo) rfl dX2_readOrder_169 rfl ?_
        refine j_iconst (pc' := 173) cx 1 dX2_readOrder_172 ki_1 rfl ?_
        refine j_iadd (pc' := 174) cx dX2_readOrder_173 rfl ?_
        refine j_put (C := RX2) (T := TX2) (N := 9) (ws' := [(hTX, .inr (1, [.ref hTXs, .int TXle, .int (TXpo + 1), .int TXfa, .int t2, .int TXki, .int TXtu, .int TXce, .ref hTXc])), (hTXs, .inl (cC, 60, .inl TXsi)), (hTXc, .inl (cI, 4, .inl TXcl))]) (pc' := 177) cx uB_X2 tyX2 tyX2_ok nmX2 0 rfl rfl 2 (by decide) wF_X2_19 rfl rfl rfl (Nat.le_of_ble_eq_true rfl) rfl dX2_readOrder_174 rfl ?_
        refine j_aload_n (pc' := 178) cx 0 dX2_readOrder_177 rfl rfl ?_
        refine j_aload_n (pc' := 179) cx 0 dX2_readOrder_178 rfl rfl ?_
        obtain ⟨r12, c13, h_17⟩ := bd_s h_16
        refine j_cV (pc' := 182) cx (c_X2_readCellNumber l D cI cZ cC cS hTX hTXs hTXc TXle (TXpo + 1) TXfa t2 TXki TXtu TXce TXsi r12 c13) 0 yk_X2_readCellNumber wM_X2_60 ⟨wN_X2_readCellNumber, wS_X2_readCellNumber, wI_X2, wC_X2_readCellNumber⟩ ⟨rfl, rfl, Nat.le_of_ble_eq_true rfl, Nat.le_of_ble_eq_true rfl, Nat.le_of_ble_eq_true rfl, Nat.le_of_ble_eq_true rfl⟩ [0, 1] [2] [1, 2, 0] rfl [(hTXc, .inl (cI, 4, .inl TXcl))] rfl (by decide) [(hTX, .inr (1, [.ref hTXs, .int TXle, .int r12.2.1, .int r12.2.2, .int t2, .int TXki, .int TXtu, .int TXce, .ref hTXc])), (hTXs, .inl (cC, 60, .inl TXsi)), (hTXc, .inl (cI, 4, .inl TXcl))] rfl (by decide) 0 1 rfl rfl rfl rfl rfl (Nat.le_of_ble_eq_true rfl) dX2_readOrder_179 rfl ?_
        refine j_put (C := RX2) (T := TX2) (N := 9) (ws' := [(hTX, .inr (1, [.ref hTXs, .int TXle, .int r12.2.1, .int r12.2.2, .int t2, .int TXki, .int TXtu, .int r12.1, .ref hTXc])), (hTXs, .inl (cC, 60, .inl TXsi)), (hTXc, .inl (cI, 4, .inl TXcl))]) (pc' := 185) cx uB_X2 tyX2 tyX2_ok nmX2 0 rfl rfl 7 (by decide) wF_X2_36 rfl rfl rfl (Nat.le_of_ble_eq_true rfl) rfl dX2_readOrder_182 rfl ?_
        refine j_goto (pc' := 193) cx dX2_readOrder_185 (by decide) ?_
        have h_18 := so_i h_17
        subst h_18
        refine j_lv (lv' := []) cx [] rfl ?_
        exact Kt23
      · have h_19 := it_f h_14 k_15
        by_cases k_20 : t2 = 107
        · have h_21 := it_t h_19 k_20
          refine j_look (tgt := 76) (off := 43) cx dX2_readOrder_33 (by decide +kernel) (jw_lk k_20 (by decide +kernel)) (by decide) ?_
          refine j_aload_n (pc' := 77) cx 0 dX2_readOrder_76 rfl rfl ?_
          refine j_dup (pc' := 78) cx dX2_readOrder_77 rfl rfl ?_
          refine j_get (C := RX2) (T := TX2) (N := 9) (pc' := 81) cx uB_X2 0 rfl rfl 2 (by decide) wF_X2_19 (.int TXpo) rfl dX2_readOrder_78 rfl ?_
          refine j_iconst (pc' := 82) cx 1 dX2_readOrder_81 ki_1 rfl ?_
          refine j_iadd (pc' := 83) cx dX2_readOrder_82 rfl ?_
          refine j_put (C := RX2) (T := TX2) (N := 9) (ws' := [(hTX, .inr (1, [.ref hTXs, .int TXle, .int (TXpo + 1), .int TXfa, .int t2, .int TXki, .int TXtu, .int TXce, .ref hTXc])), (hTXs, .inl (cC, 60, .inl TXsi)), (hTXc, .inl (cI, 4, .inl TXcl))]) (pc' := 86) cx uB_X2 tyX2 tyX2_ok nmX2 0 rfl rfl 2 (by decide) wF_X2_19 rfl rfl rfl (Nat.le_of_ble_eq_true rfl) rfl dX2_readOrder_83 rfl ?_
          refine j_aload_n (pc' := 87) cx 0 dX2_readOrder_86 rfl rfl ?_
          refine j_aload_n (pc' := 88) cx 0 dX2_readOrder_87 rfl rfl ?_
          refine j_iconst (pc' := 89) cx 5 dX2_readOrder_88 ki_5 rfl ?_
          obtain ⟨r14, c15, h_22⟩ := bd_s h_21
          refine j_cV (pc' := 92) cx (c_X2_readDigit l D cI cZ cC cS hTX hTXs hTXc TXle (TXpo + 1) TXfa t2 TXki TXtu TXce TXsi 5 r14 c15) 1 yk_X2_readDigit wM_X2_52 ⟨wN_X2_readDigit, wS_X2_readDigit, wI_X2, wC_X2_readDigit⟩ ⟨rfl, rfl, Nat.le_of_ble_eq_true rfl, Nat.le_of_ble_eq_true rfl, Nat.le_of_ble_eq_true rfl, Nat.le_of_ble_eq_true rfl⟩ [0, 1] [2] [1, 2, 0] rfl [(hTXc, .inl (cI, 4, .inl TXcl))] rfl (by decide) [(hTX, .inr (1, [.ref hTXs, .int TXle, .int r14.2.1, .int r14.2.2, .int t2, .int TXki, .int TXtu, .int TXce, .ref hTXc])), (hTXs, .inl (cC, 60, .inl TXsi)), (hTXc, .inl (cI, 4, .inl TXcl))] rfl (by decide) 0 1 rfl rfl rfl rfl rfl (Nat.le_of_ble_eq_true rfl) dX2_readOrder_89 rfl ?_
          refine j_put (C := RX2) (T := TX2) (N := 9) (ws' := [(hTX, .inr (1, [.ref hTXs, .int TXle, .int r14.2.1, .int r14.2.2, .int t2, .int r14.1, .int TXtu, .int TXce, .ref hTXc])), (hTXs, .inl (cC, 60, .inl TXsi)), (hTXc, .inl (cI, 4, .inl TXcl))]) (pc' := 95) cx uB_X2 tyX2 tyX2_ok nmX2 0 rfl rfl 5 (by decide) wF_X2_30 rfl rfl rfl (Nat.le_of_ble_eq_true rfl) rfl dX2_readOrder_92 rfl ?_
          refine j_iconst (pc' := 96) cx 0 dX2_readOrder_95 ki_0 rfl ?_
          refine j_istore_n (lv' := [(1, .int 0), (0, .ref hTX)]) (pc' := 97) cx dX2_readOrder_96 (by decide) rfl rfl ?_
          obtain ⟨e17, h_23, h_24⟩ := bd_s h_22
          have KXe17 : j 0 0 [(hTX, .inr (1, [.ref hTXs, .int TXle, .int e17.2.1, .int e17.2.2.1, .int t2, .int r14.1, .int TXtu, .int TXce, .ref hTXc])), (hTXs, .inl (cC, 60, .inl TXsi)), (hTXc, .inl (cI, 4, .inl e17.2.2.2))] [] 119 [] := by
            refine j_goto (pc' := 193) cx dX2_readOrder_119 (by decide) ?_
            have h_25 := so_i h_24
            subst h_25
            exact Kt23
          have LPe17 : ∀ (n : Nat) (s16 : Int32 × Int32 × Int32 × (Nat → Int32)), lp (f_X2_readOrder_b1 TXle TXsi) n s16 = some e17 → j 0 0 [(hTX, .inr (1, [.ref hTXs, .int TXle, .int s16.2.1, .int s16.2.2.1, .int t2, .int r14.1, .int TXtu, .int TXce, .ref hTXc])), (hTXs, .inl (cC, 60, .inl TXsi)), (hTXc, .inl (cI, 4, .inl s16.2.2.2))] [(0, .ref hTX), (1, .int s16.1)] 97 [] := by
            intro n
            induction n with
            | zero => intro s16 z; exact absurd z (by intro z; cases z)
            | succ n ihe17 =>
              intro s16 h_26
              obtain ⟨q_27, h_28, h_29⟩ := bd_s h_26
              unfold f_X2_readOrder_b1 at h_28
              refine j_iload_n (pc' := 98) cx 1 dX2_readOrder_97 rfl rfl ?_
              refine j_iconst (pc' := 99) cx 4 dX2_readOrder_98 ki_4 rfl ?_
              refine j_icmp_ge (tgt := 119) (pc' := 102) cx dX2_readOrder_99 (by decide) rfl (fun ch_28 => ?_) (fun ch_28 => ?_)
              · have h_30 := it_t h_28 ch_28
                have h_31 := so_i h_30
                subst h_31
                have h_32 := so_i (se_r h_29)
                subst h_32
                refine j_lv (lv' := []) cx [] rfl ?_
                exact KXe17
              · have h_33 := it_f h_28 ch_28
                refine j_aload_n (pc' := 103) cx 0 dX2_readOrder_102 rfl rfl ?_
                refine j_get (C := RX2) (T := TX2) (N := 9) (pc' := 106) cx uB_X2 0 rfl rfl 8 (by decide) wF_X2_39 (.ref hTXc) rfl dX2_readOrder_103 rfl ?_
                refine j_iload_n (pc' := 107) cx 1 dX2_readOrder_106 rfl rfl ?_
                refine j_aload_n (pc' := 108) cx 0 dX2_readOrder_107 rfl rfl ?_
                refine j_iconst (pc' := 109) cx 5 dX2_readOrder_108 ki_5 rfl ?_
                obtain ⟨r18, c19, h_34⟩ := bd_s h_33
                refine j_cV (pc' := 112) cx (c_X2_readDigit l D cI cZ cC cS hTX hTXs hTXc TXle s16.2.1 s16.2.2.1 t2 r14.1 TXtu TXce TXsi 5 r18 c19) 1 yk_X2_readDigit wM_X2_52 ⟨wN_X2_readDigit, wS_X2_readDigit, wI_X2, wC_X2_readDigit⟩ ⟨rfl, rfl, Nat.le_of_ble_eq_true rfl, Nat.le_of_ble_eq_true rfl, Nat.le_of_ble_eq_true rfl, Nat.le_of_ble_eq_true rfl⟩ [0, 1] [2] [1, 2, 0] rfl [(hTXc, .inl (cI, 4, .inl s16.2.2.2))] rfl (by decide) [(hTX, .inr (1, [.ref hTXs, .int TXle, .int r18.2.1, .int r18.2.2, .int t2, .int r14.1, .int TXtu, .int TXce, .ref hTXc])), (hTXs, .inl (cC, 60, .inl TXsi)), (hTXc, .inl (cI, 4, .inl s16.2.2.2))] rfl (by decide) 0 1 rfl rfl rfl rfl rfl (Nat.le_of_ble_eq_true rfl) dX2_readOrder_109 rfl ?_
                obtain ⟨i20, h_35⟩ := ck_s h_34
                refine j_iast (ws' := [(hTX, .inr (1, [.ref hTXs, .int TXle, .int r18.2.1, .int r18.2.2, .int t2, .int r14.1, .int TXtu, .int TXce, .ref hTXc])), (hTXs, .inl (cC, 60, .inl TXsi)), (hTXc, .inl (cI, 4, .inl (upd s16.2.2.2 s16.1.toNatClampNeg r18.1)))]) (pc' := 113) cx 2 0 rfl rfl i20 rfl dX2_readOrder_112 rfl ?_
                refine j_iinc (v := (s16.1 + 1)) (lv' := [(1, .int (s16.1 + 1)), (0, .ref hTX)]) (pc' := 116) cx 1 dX2_readOrder_113 rfl (kn_1 _) (by decide) rfl rfl ?_
                refine j_goto (pc' := 97) cx dX2_readOrder_116 (by decide) ?_
                have h_36 := so_i h_35
                subst h_36
                refine j_lv (lv' := [(0, .ref hTX), (1, .int (s16.1 + 1))]) cx [1, 0] rfl ?_
                exact ihe17 _ (se_l h_29)
          refine j_lv (lv' := [(0, .ref hTX), (1, .int 0)]) cx [1, 0] rfl ?_
          exact LPe17 _ _ h_23
        · have h_37 := it_f h_19 k_20
          by_cases k_38 : t2 = 116
          · have h_39 := it_t h_37 k_38
            refine j_look (tgt := 167) (off := 134) cx dX2_readOrder_33 (by decide +kernel) (jw_lk k_38 (by decide +kernel)) (by decide) ?_
            refine j_aload_n (pc' := 168) cx 0 dX2_readOrder_167 rfl rfl ?_
            refine j_dup (pc' := 169) cx dX2_readOrder_168 rfl rfl ?_
            refine j_get (C := RX2) (T := TX2) (N := 9) (pc' := 172) cx uB_X2 0 rfl rfl 2 (by decide) wF_X2_19 (.int TXpo) rfl dX2_readOrder_169 rfl ?_
            refine j_iconst (pc' := 173) cx 1 dX2_readOrder_172 ki_1 rfl ?_
            refine j_iadd (pc' := 174) cx dX2_readOrder_173 rfl ?_
            refine j_put (C := RX2) (T := TX2) (N := 9) (ws' := [(hTX, .inr (1, [.ref hTXs, .int TXle, .int (TXpo + 1), .int TXfa, .int t2, .int TXki, .int TXtu, .int TXce, .ref hTXc])), (hTXs, .inl (cC, 60, .inl TXsi)), (hTXc, .inl (cI, 4, .inl TXcl))]) (pc' := 177) cx uB_X2 tyX2 tyX2_ok nmX2 0 rfl rfl 2 (by decide) wF_X2_19 rfl rfl rfl (Nat.le_of_ble_eq_true rfl) rfl dX2_readOrder_174 rfl ?_
            refine j_aload_n (pc' := 178) cx 0 dX2_readOrder_177 rfl rfl ?_
            refine j_aload_n (pc' := 179) cx 0 dX2_readOrder_178 rfl rfl ?_
            obtain ⟨r21, c22, h_40⟩ := bd_s h_39
            refine j_cV (pc' := 182) cx (c_X2_readCellNumber l D cI cZ cC cS hTX hTXs hTXc TXle (TXpo + 1) TXfa t2 TXki TXtu TXce TXsi r21 c22) 0 yk_X2_readCellNumber wM_X2_60 ⟨wN_X2_readCellNumber, wS_X2_readCellNumber, wI_X2, wC_X2_readCellNumber⟩ ⟨rfl, rfl, Nat.le_of_ble_eq_true rfl, Nat.le_of_ble_eq_true rfl, Nat.le_of_ble_eq_true rfl, Nat.le_of_ble_eq_true rfl⟩ [0, 1] [2] [1, 2, 0] rfl [(hTXc, .inl (cI, 4, .inl TXcl))] rfl (by decide) [(hTX, .inr (1, [.ref hTXs, .int TXle, .int r21.2.1, .int r21.2.2, .int t2, .int TXki, .int TXtu, .int TXce, .ref hTXc])), (hTXs, .inl (cC, 60, .inl TXsi)), (hTXc, .inl (cI, 4, .inl TXcl))] rfl (by decide) 0 1 rfl rfl rfl rfl rfl (Nat.le_of_ble_eq_true rfl) dX2_readOrder_179 rfl ?_
            refine j_put (C := RX2) (T := TX2) (N := 9) (ws' := [(hTX, .inr (1, [.ref hTXs, .int TXle, .int r21.2.1, .int r21.2.2, .int t2, .int TXki, .int TXtu, .int r21.1, .ref hTXc])), (hTXs, .inl (cC, 60, .inl TXsi)), (hTXc, .inl (cI, 4, .inl TXcl))]) (pc' := 185) cx uB_X2 tyX2 tyX2_ok nmX2 0 rfl rfl 7 (by decide) wF_X2_36 rfl rfl rfl (Nat.le_of_ble_eq_true rfl) rfl dX2_readOrder_182 rfl ?_
            refine j_goto (pc' := 193) cx dX2_readOrder_185 (by decide) ?_
            have h_41 := so_i h_40
            subst h_41
            refine j_lv (lv' := []) cx [] rfl ?_
            exact Kt23
          · have h_42 := it_f h_37 k_38
            refine j_look (tgt := 188) (off := 155) cx dX2_readOrder_33 (by decide +kernel) (by simp [Op.lookupswitch.offset, jw_ne3 k_7 (show (43 : Int32).toInt = 43 from by decide +kernel), jw_ne3 k_15 (show (45 : Int32).toInt = 45 from by decide +kernel), jw_ne3 k_20 (show (107 : Int32).toInt = 107 from by decide +kernel), jw_ne3 k_38 (show (116 : Int32).toInt = 116 from by decide +kernel)]) (by decide) ?_
            refine j_aload_n (pc' := 189) cx 0 dX2_readOrder_188 rfl rfl ?_
            refine j_iconst (pc' := 190) cx 1 dX2_readOrder_189 ki_1 rfl ?_
            refine j_put (C := RX2) (T := TX2) (N := 9) (ws' := [(hTX, .inr (1, [.ref hTXs, .int TXle, .int TXpo, .int 1, .int t2, .int TXki, .int TXtu, .int TXce, .ref hTXc])), (hTXs, .inl (cC, 60, .inl TXsi)), (hTXc, .inl (cI, 4, .inl TXcl))]) (pc' := 193) cx uB_X2 tyX2 tyX2_ok nmX2 0 rfl rfl 3 (by decide) wF_X2_22 rfl (by decide +kernel) (by decide +kernel) (Nat.le_of_ble_eq_true rfl) rfl dX2_readOrder_190 rfl ?_
            have h_43 := so_i h_42
            subst h_43
            refine j_lv (lv' := []) cx [] rfl ?_
            exact Kt23
  refine j_icmp_ge (tgt := 24) (pc' := 12) cx dX2_readOrder_9 (by decide) rfl (fun ch_2 => ?_) (fun ch_2 => ?_)
  · have h_44 := it_t h_2 ch_2
    refine j_bipush (pc' := 26) cx 32 dX2_readOrder_24 kb_32 rfl ?_
    have h_45 := so_i h_44
    subst h_45
    exact Kt2
  · have h_46 := it_f h_2 ch_2
    refine j_aload_n (pc' := 13) cx 0 dX2_readOrder_12 rfl rfl ?_
    refine j_get (C := RX2) (T := TX2) (N := 9) (pc' := 16) cx uB_X2 0 rfl rfl 0 (by decide) wF_X2_9 (.ref hTXs) rfl dX2_readOrder_13 rfl ?_
    refine j_aload_n (pc' := 17) cx 0 dX2_readOrder_16 rfl rfl ?_
    refine j_get (C := RX2) (T := TX2) (N := 9) (pc' := 20) cx uB_X2 0 rfl rfl 2 (by decide) wF_X2_19 (.int TXpo) rfl dX2_readOrder_17 rfl ?_
    obtain ⟨i1, h_47⟩ := ck_s h_46
    refine j_cald (pc' := 21) cx 1 2 rfl rfl i1 dX2_readOrder_20 rfl ?_
    refine j_goto (pc' := 26) cx dX2_readOrder_21 (by decide) ?_
    have h_48 := so_i h_47
    subst h_48
    exact Kt2
set_option maxHeartbeats 4000000 in
set_option maxRecDepth 100000 in
theorem c_X2_readSeparator (l : Launch) (D : va_G) (cI cZ cC cS : ClassId) (hTX hTXs hTXc : Nat) (TXle : Int32) (TXpo : Int32) (TXfa : Int32) (TXso : Int32) (TXki : Int32) (TXtu : Int32) (TXce : Int32) (TXsi : Nat → Int32) (out : Int32 × Int32) (hm : f_X2_readSeparator TXle TXpo TXfa TXsi = some out) : Ct l yX2_readSeparator cX2_readSeparator 1 none ({ frames := 1, cells := 0, slots := 0, locals := 21 }) (D, TY cI cZ cC cS) [.ref hTX] [(hTX, .inr (1, [.ref hTXs, .int TXle, .int TXpo, .int TXfa, .int TXso, .int TXki, .int TXtu, .int TXce, .ref hTXc])), (hTXs, .inl (cC, 60, .inl TXsi))] (jw_P none [(hTX, .inr (1, [.ref hTXs, .int TXle, .int out.1, .int out.2, .int TXso, .int TXki, .int TXtu, .int TXce, .ref hTXc])), (hTXs, .inl (cC, 60, .inl TXsi))]) 0 0 := by
  refine ct_of RX2 (by decide +kernel) rfl (Nat.le_of_ble_eq_true rfl) (fun j cx => ?_)
  unfold f_X2_readSeparator at hm
  show j 0 0 [(hTX, .inr (1, [.ref hTXs, .int TXle, .int TXpo, .int TXfa, .int TXso, .int TXki, .int TXtu, .int TXce, .ref hTXc])), (hTXs, .inl (cC, 60, .inl TXsi))] [(0, .ref hTX)] 0 []
  refine j_aload_n (pc' := 1) cx 0 dX2_readSeparator_0 rfl rfl ?_
  refine j_get (C := RX2) (T := TX2) (N := 9) (pc' := 4) cx uB_X2 0 rfl rfl 2 (by decide) wF_X2_19 (.int TXpo) rfl dX2_readSeparator_1 rfl ?_
  refine j_aload_n (pc' := 5) cx 0 dX2_readSeparator_4 rfl rfl ?_
  refine j_get (C := RX2) (T := TX2) (N := 9) (pc' := 8) cx uB_X2 0 rfl rfl 1 (by decide) wF_X2_15 (.int TXle) rfl dX2_readSeparator_5 rfl ?_
  obtain ⟨t3, h_2, h_1⟩ := bd_s hm
  have Kt3 : j 0 0 [(hTX, .inr (1, [.ref hTXs, .int TXle, .int t3.1, .int t3.2, .int TXso, .int TXki, .int TXtu, .int TXce, .ref hTXc])), (hTXs, .inl (cC, 60, .inl TXsi))] [] 17 [] := by
    have h_3 := so_i h_1
    subst h_3
    exact j_ret cx (Or.inl ⟨rfl, dX2_readSeparator_17, rfl, rfl⟩) ⟨rfl, rfl⟩
  refine j_icmp_ge (tgt := 17) (pc' := 11) cx dX2_readSeparator_8 (by decide) rfl (fun ch_2 => ?_) (fun ch_2 => ?_)
  · have h_4 := it_t h_2 ch_2
    have h_5 := so_i h_4
    subst h_5
    refine j_lv (lv' := []) cx [] rfl ?_
    exact Kt3
  · have h_6 := it_f h_2 ch_2
    refine j_aload_n (pc' := 12) cx 0 dX2_readSeparator_11 rfl rfl ?_
    refine j_bipush (pc' := 14) cx 59 dX2_readSeparator_12 kb_59 rfl ?_
    obtain ⟨r1, c2, h_7⟩ := bd_s h_6
    refine j_cV (pc' := 17) cx (c_X2_readSign l D cI cZ cC cS hTX hTXs hTXc TXle TXpo TXfa TXso TXki TXtu TXce TXsi 59 r1 c2) 1 yk_X2_readSign wM_X2_56 ⟨wN_X2_readSign, wS_X2_readSign, wI_X2, wC_X2_readSign⟩ ⟨rfl, rfl, Nat.le_of_ble_eq_true rfl, Nat.le_of_ble_eq_true rfl, Nat.le_of_ble_eq_true rfl, Nat.le_of_ble_eq_true rfl⟩ [0, 1] [] [0, 1] rfl [] rfl (by decide) [(hTX, .inr (1, [.ref hTXs, .int TXle, .int r1.1, .int r1.2, .int TXso, .int TXki, .int TXtu, .int TXce, .ref hTXc])), (hTXs, .inl (cC, 60, .inl TXsi))] rfl (by decide) 0 1 rfl rfl rfl rfl rfl (Nat.le_of_ble_eq_true rfl) dX2_readSeparator_14 rfl ?_
    have h_8 := so_i h_7
    subst h_8
    refine j_lv (lv' := []) cx [] rfl ?_
    exact Kt3
set_option maxHeartbeats 4000000 in
set_option maxRecDepth 100000 in
theorem c_X2_countOrders (l : Launch) (D : va_G) (cI cZ cC cS : ClassId) (hTX hTXs hTXc : Nat) (TXle : Int32) (TXpo : Int32) (TXfa : Int32) (TXso : Int32) (TXki : Int32) (TXtu : Int32) (TXce : Int32) (TXsi : Nat → Int32) (TXcl : Nat → Int32) (out : Int32 × Int32 × Int32 × Int32 × Int32 × Int32 × Int32 × (Nat → Int32)) (hm : f_X2_countOrders TXle TXpo TXfa TXso TXki TXtu TXce TXsi TXcl = some out) : Ct l yX2_countOrders cX2_countOrders 2 (some .int) ({ frames := 4, cells := 0, slots := 0, locals := 87 }) (D, TY cI cZ cC cS) [.ref hTX] [(hTX, .inr (1, [.ref hTXs, .int TXle, .int TXpo, .int TXfa, .int TXso, .int TXki, .int TXtu, .int TXce, .ref hTXc])), (hTXs, .inl (cC, 60, .inl TXsi)), (hTXc, .inl (cI, 4, .inl TXcl))] (jw_P (some (.int out.1)) [(hTX, .inr (1, [.ref hTXs, .int TXle, .int out.2.1, .int out.2.2.1, .int out.2.2.2.1, .int out.2.2.2.2.1, .int out.2.2.2.2.2.1, .int out.2.2.2.2.2.2.1, .ref hTXc])), (hTXs, .inl (cC, 60, .inl TXsi)), (hTXc, .inl (cI, 4, .inl out.2.2.2.2.2.2.2))]) 0 0 := by
  refine ct_of RX2 (by decide +kernel) rfl (Nat.le_of_ble_eq_true rfl) (fun j cx => ?_)
  unfold f_X2_countOrders at hm
  show j 0 0 [(hTX, .inr (1, [.ref hTXs, .int TXle, .int TXpo, .int TXfa, .int TXso, .int TXki, .int TXtu, .int TXce, .ref hTXc])), (hTXs, .inl (cC, 60, .inl TXsi)), (hTXc, .inl (cI, 4, .inl TXcl))] [(0, .ref hTX)] 0 []
  refine j_aload_n (pc' := 1) cx 0 dX2_countOrders_0 rfl rfl ?_
  obtain ⟨r1, c2, h_1⟩ := bd_s hm
  refine j_cV (pc' := 4) cx (c_X2_rewind l D cI cZ cC cS hTX hTXs hTXc TXle TXpo TXfa TXso TXki TXtu TXce r1 c2) 0 yk_X2_rewind wM_X2_43 ⟨wN_X2_rewind, wS_X2_rewind, wI_X2, wC_X2_rewind⟩ ⟨rfl, rfl, Nat.le_of_ble_eq_true rfl, Nat.le_of_ble_eq_true rfl, Nat.le_of_ble_eq_true rfl, Nat.le_of_ble_eq_true rfl⟩ [0] [1, 2] [2, 0, 1] rfl [(hTXs, .inl (cC, 60, .inl TXsi)), (hTXc, .inl (cI, 4, .inl TXcl))] rfl (by decide) [(hTX, .inr (1, [.ref hTXs, .int TXle, .int r1.1, .int r1.2, .int TXso, .int TXki, .int TXtu, .int TXce, .ref hTXc])), (hTXs, .inl (cC, 60, .inl TXsi)), (hTXc, .inl (cI, 4, .inl TXcl))] rfl (by decide) 0 1 rfl rfl rfl rfl rfl (Nat.le_of_ble_eq_true rfl) dX2_countOrders_1 rfl ?_
  refine j_iconst (pc' := 5) cx 0 dX2_countOrders_4 ki_0 rfl ?_
  refine j_istore_n (lv' := [(1, .int 0), (0, .ref hTX)]) (pc' := 6) cx dX2_countOrders_5 (by decide) rfl rfl ?_
  obtain ⟨e4, h_2, h_3⟩ := bd_s h_1
  have KXe4 : j 0 0 [(hTX, .inr (1, [.ref hTXs, .int TXle, .int e4.2.1, .int e4.2.2.1, .int e4.2.2.2.1, .int e4.2.2.2.2.1, .int e4.2.2.2.2.2.1, .int e4.2.2.2.2.2.2.1, .ref hTXc])), (hTXs, .inl (cC, 60, .inl TXsi)), (hTXc, .inl (cI, 4, .inl e4.2.2.2.2.2.2.2))] [(1, .int e4.1)] 47 [] := by
    refine j_iload_n (pc' := 48) cx 0 dX2_countOrders_47 rfl rfl ?_
    have h_4 := so_i h_3
    subst h_4
    exact j_ret cx (Or.inr (Or.inl ⟨_, _, rfl, rfl, dX2_countOrders_48, rfl, rfl⟩)) ⟨rfl, rfl⟩
  have LPe4 : ∀ (n : Nat) (s3 : Int32 × Int32 × Int32 × Int32 × Int32 × Int32 × Int32 × (Nat → Int32)), lp (f_X2_countOrders_b1 TXle TXsi) n s3 = some e4 → j 0 0 [(hTX, .inr (1, [.ref hTXs, .int TXle, .int s3.2.1, .int s3.2.2.1, .int s3.2.2.2.1, .int s3.2.2.2.2.1, .int s3.2.2.2.2.2.1, .int s3.2.2.2.2.2.2.1, .ref hTXc])), (hTXs, .inl (cC, 60, .inl TXsi)), (hTXc, .inl (cI, 4, .inl s3.2.2.2.2.2.2.2))] [(0, .ref hTX), (1, .int s3.1)] 6 [] := by
    intro n
    induction n with
    | zero => intro s3 z; exact absurd z (by intro z; cases z)
    | succ n ihe4 =>
      intro s3 h_5
      obtain ⟨q_6, h_7, h_8⟩ := bd_s h_5
      unfold f_X2_countOrders_b1 at h_7
      refine j_iload_n (pc' := 7) cx 1 dX2_countOrders_6 rfl rfl ?_
      refine j_bipush (pc' := 9) cx 60 dX2_countOrders_7 kb_60 rfl ?_
      refine j_icmp_ge (tgt := 47) (pc' := 12) cx dX2_countOrders_9 (by decide) rfl (fun ch_7 => ?_) (fun ch_7 => ?_)
      · have h_9 := it_t h_7 ch_7
        have h_10 := so_i h_9
        subst h_10
        have h_11 := so_i (se_r h_8)
        subst h_11
        refine j_lv (lv' := [(1, .int s3.1)]) cx [1] rfl ?_
        exact KXe4
      · have h_12 := it_f h_7 ch_7
        refine j_aload_n (pc' := 13) cx 0 dX2_countOrders_12 rfl rfl ?_
        refine j_get (C := RX2) (T := TX2) (N := 9) (pc' := 16) cx uB_X2 0 rfl rfl 3 (by decide) wF_X2_22 (.int s3.2.2.1) rfl dX2_countOrders_13 rfl ?_
        refine j_if_ne (tgt := 47) (pc' := 19) cx dX2_countOrders_16 (by decide) rfl (fun ch_12 => ?_) (fun ch_12 => ?_)
        · have h_13 := it_f h_12 ch_12
          have h_14 := so_i h_13
          subst h_14
          have h_15 := so_i (se_r h_8)
          subst h_15
          refine j_lv (lv' := [(1, .int s3.1)]) cx [1] rfl ?_
          exact KXe4
        · have h_16 := it_t h_12 ch_12
          refine j_aload_n (pc' := 20) cx 0 dX2_countOrders_19 rfl rfl ?_
          obtain ⟨r5, c6, h_17⟩ := bd_s h_16
          refine j_cV (pc' := 23) cx (c_X2_readOrder l D cI cZ cC cS hTX hTXs hTXc TXle s3.2.1 s3.2.2.1 s3.2.2.2.1 s3.2.2.2.2.1 s3.2.2.2.2.2.1 s3.2.2.2.2.2.2.1 TXsi s3.2.2.2.2.2.2.2 r5 c6) 0 yk_X2_readOrder wM_X2_46 ⟨wN_X2_readOrder, wS_X2_readOrder, wI_X2, wC_X2_readOrder⟩ ⟨rfl, rfl, Nat.le_of_ble_eq_true rfl, Nat.le_of_ble_eq_true rfl, Nat.le_of_ble_eq_true rfl, Nat.le_of_ble_eq_true rfl⟩ [0, 1, 2] [] [0, 1, 2] rfl [] rfl (by decide) [(hTX, .inr (1, [.ref hTXs, .int TXle, .int r5.1, .int r5.2.1, .int r5.2.2.1, .int r5.2.2.2.1, .int r5.2.2.2.2.1, .int r5.2.2.2.2.2.1, .ref hTXc])), (hTXs, .inl (cC, 60, .inl TXsi)), (hTXc, .inl (cI, 4, .inl r5.2.2.2.2.2.2))] rfl (by decide) 0 1 rfl rfl rfl rfl rfl (Nat.le_of_ble_eq_true rfl) dX2_countOrders_20 rfl ?_
          refine j_iinc (v := (s3.1 + 1)) (lv' := [(1, .int (s3.1 + 1)), (0, .ref hTX)]) (pc' := 26) cx 1 dX2_countOrders_23 rfl (kn_1 _) (by decide) rfl rfl ?_
          refine j_aload_n (pc' := 27) cx 1 dX2_countOrders_26 rfl rfl ?_
          refine j_get (C := RX2) (T := TX2) (N := 9) (pc' := 30) cx uB_X2 0 rfl rfl 2 (by decide) wF_X2_19 (.int r5.1) rfl dX2_countOrders_27 rfl ?_
          refine j_aload_n (pc' := 31) cx 1 dX2_countOrders_30 rfl rfl ?_
          refine j_get (C := RX2) (T := TX2) (N := 9) (pc' := 34) cx uB_X2 0 rfl rfl 1 (by decide) wF_X2_15 (.int TXle) rfl dX2_countOrders_31 rfl ?_
          refine j_icmp_ne (tgt := 40) (pc' := 37) cx dX2_countOrders_34 (by decide) rfl (fun ch_17 => ?_) (fun ch_17 => ?_)
          · have h_18 := it_f h_17 ch_17
            refine j_aload_n (pc' := 41) cx 1 dX2_countOrders_40 rfl rfl ?_
            obtain ⟨r7, c8, h_19⟩ := bd_s h_18
            refine j_cV (pc' := 44) cx (c_X2_readSeparator l D cI cZ cC cS hTX hTXs hTXc TXle r5.1 r5.2.1 r5.2.2.1 r5.2.2.2.1 r5.2.2.2.2.1 r5.2.2.2.2.2.1 TXsi r7 c8) 0 yk_X2_readSeparator wM_X2_49 ⟨wN_X2_readSeparator, wS_X2_readSeparator, wI_X2, wC_X2_readSeparator⟩ ⟨rfl, rfl, Nat.le_of_ble_eq_true rfl, Nat.le_of_ble_eq_true rfl, Nat.le_of_ble_eq_true rfl, Nat.le_of_ble_eq_true rfl⟩ [0, 1] [2] [1, 2, 0] rfl [(hTXc, .inl (cI, 4, .inl r5.2.2.2.2.2.2))] rfl (by decide) [(hTX, .inr (1, [.ref hTXs, .int TXle, .int r7.1, .int r7.2, .int r5.2.2.1, .int r5.2.2.2.1, .int r5.2.2.2.2.1, .int r5.2.2.2.2.2.1, .ref hTXc])), (hTXs, .inl (cC, 60, .inl TXsi)), (hTXc, .inl (cI, 4, .inl r5.2.2.2.2.2.2))] rfl (by decide) 0 1 rfl rfl rfl rfl rfl (Nat.le_of_ble_eq_true rfl) dX2_countOrders_41 rfl ?_
            refine j_goto (pc' := 6) cx dX2_countOrders_44 (by decide) ?_
            have h_20 := so_i h_19
            subst h_20
            refine j_lv (lv' := [(0, .ref hTX), (1, .int (s3.1 + 1))]) cx [1, 0] rfl ?_
            exact ihe4 _ (se_l h_8)
          · have h_21 := it_t h_17 ch_17
            refine j_goto (pc' := 47) cx dX2_countOrders_37 (by decide) ?_
            have h_22 := so_i h_21
            subst h_22
            have h_23 := so_i (se_r h_8)
            subst h_23
            refine j_lv (lv' := [(1, .int (s3.1 + 1))]) cx [0] rfl ?_
            exact KXe4
  refine j_lv (lv' := [(0, .ref hTX), (1, .int 0)]) cx [1, 0] rfl ?_
  exact LPe4 _ _ h_2
set_option maxHeartbeats 4000000 in
set_option maxRecDepth 100000 in
theorem c_X2_isFaulty (l : Launch) (D : va_G) (cI cZ cC cS : ClassId) (hTX hTXs hTXc : Nat) (TXle : Int32) (TXpo : Int32) (TXfa : Int32) (TXso : Int32) (TXki : Int32) (TXtu : Int32) (TXce : Int32) (out : Int32) (hm : f_X2_isFaulty TXfa = some out) : Ct l yX2_isFaulty cX2_isFaulty 1 (some .boolean) ({ frames := 0, cells := 0, slots := 0, locals := 0 }) (D, TY cI cZ cC cS) [.ref hTX] [(hTX, .inr (1, [.ref hTXs, .int TXle, .int TXpo, .int TXfa, .int TXso, .int TXki, .int TXtu, .int TXce, .ref hTXc]))] (jw_P (some (.int out)) [(hTX, .inr (1, [.ref hTXs, .int TXle, .int TXpo, .int TXfa, .int TXso, .int TXki, .int TXtu, .int TXce, .ref hTXc]))]) 0 0 := by
  refine ct_of RX2 (by decide +kernel) rfl (Nat.le_of_ble_eq_true rfl) (fun j cx => ?_)
  unfold f_X2_isFaulty at hm
  show j 0 0 [(hTX, .inr (1, [.ref hTXs, .int TXle, .int TXpo, .int TXfa, .int TXso, .int TXki, .int TXtu, .int TXce, .ref hTXc]))] [(0, .ref hTX)] 0 []
  refine j_aload_n (pc' := 1) cx 0 dX2_isFaulty_0 rfl rfl ?_
  refine j_get (C := RX2) (T := TX2) (N := 9) (pc' := 4) cx uB_X2 0 rfl rfl 3 (by decide) wF_X2_22 (.int TXfa) rfl dX2_isFaulty_1 rfl ?_
  obtain ⟨b1, h_1⟩ := ckP_s hm
  have h_2 := so_i h_1
  subst h_2
  exact j_ret cx (Or.inr (Or.inl ⟨_, _, rfl, (nz_n b1), dX2_isFaulty_4, rfl, rfl⟩)) ⟨rfl, rfl⟩
set_option maxHeartbeats 4000000 in
set_option maxRecDepth 100000 in
theorem c_X2_position (l : Launch) (D : va_G) (cI cZ cC cS : ClassId) (hTX hTXs hTXc : Nat) (TXle : Int32) (TXpo : Int32) (TXfa : Int32) (TXso : Int32) (TXki : Int32) (TXtu : Int32) (TXce : Int32) (out : Int32) (hm : f_X2_position TXpo = some out) : Ct l yX2_position cX2_position 1 (some .int) ({ frames := 0, cells := 0, slots := 0, locals := 0 }) (D, TY cI cZ cC cS) [.ref hTX] [(hTX, .inr (1, [.ref hTXs, .int TXle, .int TXpo, .int TXfa, .int TXso, .int TXki, .int TXtu, .int TXce, .ref hTXc]))] (jw_P (some (.int out)) [(hTX, .inr (1, [.ref hTXs, .int TXle, .int TXpo, .int TXfa, .int TXso, .int TXki, .int TXtu, .int TXce, .ref hTXc]))]) 0 0 := by
  refine ct_of RX2 (by decide +kernel) rfl (Nat.le_of_ble_eq_true rfl) (fun j cx => ?_)
  unfold f_X2_position at hm
  show j 0 0 [(hTX, .inr (1, [.ref hTXs, .int TXle, .int TXpo, .int TXfa, .int TXso, .int TXki, .int TXtu, .int TXce, .ref hTXc]))] [(0, .ref hTX)] 0 []
  refine j_aload_n (pc' := 1) cx 0 dX2_position_0 rfl rfl ?_
  refine j_get (C := RX2) (T := TX2) (N := 9) (pc' := 4) cx uB_X2 0 rfl rfl 2 (by decide) wF_X2_19 (.int TXpo) rfl dX2_position_1 rfl ?_
  have h_1 := so_i hm
  subst h_1
  exact j_ret cx (Or.inr (Or.inl ⟨_, _, rfl, rfl, dX2_position_4, rfl, rfl⟩)) ⟨rfl, rfl⟩
set_option maxHeartbeats 4000000 in
set_option maxRecDepth 100000 in
theorem c_X2_sort (l : Launch) (D : va_G) (cI cZ cC cS : ClassId) (hTX hTXs hTXc : Nat) (TXle : Int32) (TXpo : Int32) (TXfa : Int32) (TXso : Int32) (TXki : Int32) (TXtu : Int32) (TXce : Int32) (out : Int32) (hm : f_X2_sort TXso = some out) : Ct l yX2_sort cX2_sort 1 (some .char) ({ frames := 0, cells := 0, slots := 0, locals := 0 }) (D, TY cI cZ cC cS) [.ref hTX] [(hTX, .inr (1, [.ref hTXs, .int TXle, .int TXpo, .int TXfa, .int TXso, .int TXki, .int TXtu, .int TXce, .ref hTXc]))] (jw_P (some (.int out)) [(hTX, .inr (1, [.ref hTXs, .int TXle, .int TXpo, .int TXfa, .int TXso, .int TXki, .int TXtu, .int TXce, .ref hTXc]))]) 0 0 := by
  refine ct_of RX2 (by decide +kernel) rfl (Nat.le_of_ble_eq_true rfl) (fun j cx => ?_)
  unfold f_X2_sort at hm
  show j 0 0 [(hTX, .inr (1, [.ref hTXs, .int TXle, .int TXpo, .int TXfa, .int TXso, .int TXki, .int TXtu, .int TXce, .ref hTXc]))] [(0, .ref hTX)] 0 []
  refine j_aload_n (pc' := 1) cx 0 dX2_sort_0 rfl rfl ?_
  refine j_get (C := RX2) (T := TX2) (N := 9) (pc' := 4) cx uB_X2 0 rfl rfl 4 (by decide) wF_X2_26 (.int TXso) rfl dX2_sort_1 rfl ?_
  obtain ⟨b1, h_1⟩ := ckP_s hm
  have h_2 := so_i h_1
  subst h_2
  exact j_ret cx (Or.inr (Or.inl ⟨_, _, rfl, (nc_n b1), dX2_sort_4, rfl, rfl⟩)) ⟨rfl, rfl⟩
set_option maxHeartbeats 4000000 in
set_option maxRecDepth 100000 in
theorem c_X2_kind (l : Launch) (D : va_G) (cI cZ cC cS : ClassId) (hTX hTXs hTXc : Nat) (TXle : Int32) (TXpo : Int32) (TXfa : Int32) (TXso : Int32) (TXki : Int32) (TXtu : Int32) (TXce : Int32) (out : Int32) (hm : f_X2_kind TXki = some out) : Ct l yX2_kind cX2_kind 1 (some .int) ({ frames := 0, cells := 0, slots := 0, locals := 0 }) (D, TY cI cZ cC cS) [.ref hTX] [(hTX, .inr (1, [.ref hTXs, .int TXle, .int TXpo, .int TXfa, .int TXso, .int TXki, .int TXtu, .int TXce, .ref hTXc]))] (jw_P (some (.int out)) [(hTX, .inr (1, [.ref hTXs, .int TXle, .int TXpo, .int TXfa, .int TXso, .int TXki, .int TXtu, .int TXce, .ref hTXc]))]) 0 0 := by
  refine ct_of RX2 (by decide +kernel) rfl (Nat.le_of_ble_eq_true rfl) (fun j cx => ?_)
  unfold f_X2_kind at hm
  show j 0 0 [(hTX, .inr (1, [.ref hTXs, .int TXle, .int TXpo, .int TXfa, .int TXso, .int TXki, .int TXtu, .int TXce, .ref hTXc]))] [(0, .ref hTX)] 0 []
  refine j_aload_n (pc' := 1) cx 0 dX2_kind_0 rfl rfl ?_
  refine j_get (C := RX2) (T := TX2) (N := 9) (pc' := 4) cx uB_X2 0 rfl rfl 5 (by decide) wF_X2_30 (.int TXki) rfl dX2_kind_1 rfl ?_
  have h_1 := so_i hm
  subst h_1
  exact j_ret cx (Or.inr (Or.inl ⟨_, _, rfl, rfl, dX2_kind_4, rfl, rfl⟩)) ⟨rfl, rfl⟩
set_option maxHeartbeats 4000000 in
set_option maxRecDepth 100000 in
theorem c_X2_turns (l : Launch) (D : va_G) (cI cZ cC cS : ClassId) (hTX hTXs hTXc : Nat) (TXle : Int32) (TXpo : Int32) (TXfa : Int32) (TXso : Int32) (TXki : Int32) (TXtu : Int32) (TXce : Int32) (out : Int32) (hm : f_X2_turns TXtu = some out) : Ct l yX2_turns cX2_turns 1 (some .int) ({ frames := 0, cells := 0, slots := 0, locals := 0 }) (D, TY cI cZ cC cS) [.ref hTX] [(hTX, .inr (1, [.ref hTXs, .int TXle, .int TXpo, .int TXfa, .int TXso, .int TXki, .int TXtu, .int TXce, .ref hTXc]))] (jw_P (some (.int out)) [(hTX, .inr (1, [.ref hTXs, .int TXle, .int TXpo, .int TXfa, .int TXso, .int TXki, .int TXtu, .int TXce, .ref hTXc]))]) 0 0 := by
  refine ct_of RX2 (by decide +kernel) rfl (Nat.le_of_ble_eq_true rfl) (fun j cx => ?_)
  unfold f_X2_turns at hm
  show j 0 0 [(hTX, .inr (1, [.ref hTXs, .int TXle, .int TXpo, .int TXfa, .int TXso, .int TXki, .int TXtu, .int TXce, .ref hTXc]))] [(0, .ref hTX)] 0 []
  refine j_aload_n (pc' := 1) cx 0 dX2_turns_0 rfl rfl ?_
  refine j_get (C := RX2) (T := TX2) (N := 9) (pc' := 4) cx uB_X2 0 rfl rfl 6 (by decide) wF_X2_33 (.int TXtu) rfl dX2_turns_1 rfl ?_
  have h_1 := so_i hm
  subst h_1
  exact j_ret cx (Or.inr (Or.inl ⟨_, _, rfl, rfl, dX2_turns_4, rfl, rfl⟩)) ⟨rfl, rfl⟩
set_option maxHeartbeats 4000000 in
set_option maxRecDepth 100000 in
theorem c_X2_cellNumber (l : Launch) (D : va_G) (cI cZ cC cS : ClassId) (hTX hTXs hTXc : Nat) (TXle : Int32) (TXpo : Int32) (TXfa : Int32) (TXso : Int32) (TXki : Int32) (TXtu : Int32) (TXce : Int32) (out : Int32) (hm : f_X2_cellNumber TXce = some out) : Ct l yX2_cellNumber cX2_cellNumber 1 (some .int) ({ frames := 0, cells := 0, slots := 0, locals := 0 }) (D, TY cI cZ cC cS) [.ref hTX] [(hTX, .inr (1, [.ref hTXs, .int TXle, .int TXpo, .int TXfa, .int TXso, .int TXki, .int TXtu, .int TXce, .ref hTXc]))] (jw_P (some (.int out)) [(hTX, .inr (1, [.ref hTXs, .int TXle, .int TXpo, .int TXfa, .int TXso, .int TXki, .int TXtu, .int TXce, .ref hTXc]))]) 0 0 := by
  refine ct_of RX2 (by decide +kernel) rfl (Nat.le_of_ble_eq_true rfl) (fun j cx => ?_)
  unfold f_X2_cellNumber at hm
  show j 0 0 [(hTX, .inr (1, [.ref hTXs, .int TXle, .int TXpo, .int TXfa, .int TXso, .int TXki, .int TXtu, .int TXce, .ref hTXc]))] [(0, .ref hTX)] 0 []
  refine j_aload_n (pc' := 1) cx 0 dX2_cellNumber_0 rfl rfl ?_
  refine j_get (C := RX2) (T := TX2) (N := 9) (pc' := 4) cx uB_X2 0 rfl rfl 7 (by decide) wF_X2_36 (.int TXce) rfl dX2_cellNumber_1 rfl ?_
  have h_1 := so_i hm
  subst h_1
  exact j_ret cx (Or.inr (Or.inl ⟨_, _, rfl, rfl, dX2_cellNumber_4, rfl, rfl⟩)) ⟨rfl, rfl⟩
set_option maxHeartbeats 4000000 in
set_option maxRecDepth 100000 in
theorem c_X2_colours (l : Launch) (D : va_G) (cI cZ cC cS : ClassId) (hTX hTXs hTXc : Nat) (TXle : Int32) (TXpo : Int32) (TXfa : Int32) (TXso : Int32) (TXki : Int32) (TXtu : Int32) (TXce : Int32) (out : Unit) (hm : f_X2_colours = some out) : Ct l yX2_colours cX2_colours 1 (some (.array .int)) ({ frames := 0, cells := 0, slots := 0, locals := 0 }) (D, TY cI cZ cC cS) [.ref hTX] [(hTX, .inr (1, [.ref hTXs, .int TXle, .int TXpo, .int TXfa, .int TXso, .int TXki, .int TXtu, .int TXce, .ref hTXc]))] (jw_P (some (.ref hTXc)) [(hTX, .inr (1, [.ref hTXs, .int TXle, .int TXpo, .int TXfa, .int TXso, .int TXki, .int TXtu, .int TXce, .ref hTXc]))]) 0 0 := by
  refine ct_of RX2 (by decide +kernel) rfl (Nat.le_of_ble_eq_true rfl) (fun j cx => ?_)
  unfold f_X2_colours at hm
  show j 0 0 [(hTX, .inr (1, [.ref hTXs, .int TXle, .int TXpo, .int TXfa, .int TXso, .int TXki, .int TXtu, .int TXce, .ref hTXc]))] [(0, .ref hTX)] 0 []
  refine j_aload_n (pc' := 1) cx 0 dX2_colours_0 rfl rfl ?_
  refine j_get (C := RX2) (T := TX2) (N := 9) (pc' := 4) cx uB_X2 0 rfl rfl 8 (by decide) wF_X2_39 (.ref hTXc) rfl dX2_colours_1 rfl ?_
  have h_1 := so_i hm
  subst h_1
  exact j_ret cx (Or.inr (Or.inr ⟨_, _, rfl, dX2_colours_4, rfl, rfl⟩)) ⟨rfl, rfl⟩
