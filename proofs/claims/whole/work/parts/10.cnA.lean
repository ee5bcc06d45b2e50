set_option maxHeartbeats 4000000 in
set_option maxRecDepth 100000 in
theorem c_X0_shifted (l : Launch) (D : va_G) (cI cZ cC cS : ClassId) (p0 : Int32) (p1 : Int32) (p2 : Int32) (out : Int32) (hm : f_X0_shifted p0 p1 p2 = some out) : Ct l yX0_shifted cX0_shifted 5 (some .int) ({ frames := 0, cells := 0, slots := 0, locals := 0 }) (D, TY cI cZ cC cS) [.int p0, .int p1, .int p2] [] (jw_P (some (.int out)) []) 0 0 := by
  refine ct_of RX0 (by decide +kernel) rfl (Nat.le_of_ble_eq_true rfl) (fun j cx => ?_)
  unfold f_X0_shifted at hm
  show j 0 0 [] [(0, .int p0), (1, .int p1), (2, .int p2)] 0 []
  refine j_iload_n (pc' := 1) cx 0 dX0_shifted_0 rfl rfl ?_
  refine j_bipush (pc' := 3) cx 15 dX0_shifted_1 kb_15 rfl ?_
  refine j_irem (pc' := 4) cx dX0_shifted_3 kz_15 rfl ?_
  refine j_iload_n (pc' := 5) cx 1 dX0_shifted_4 rfl rfl ?_
  refine j_iadd (pc' := 6) cx dX0_shifted_5 rfl ?_
  refine j_bipush (pc' := 8) cx 15 dX0_shifted_6 kb_15 rfl ?_
  refine j_irem (pc' := 9) cx dX0_shifted_8 kz_15 rfl ?_
  refine j_istore_n (lv' := [(3, .int (rm ((rm p0 15) + p1) 15)), (0, .int p0), (1, .int p1), (2, .int p2)]) (pc' := 10) cx dX0_shifted_9 (by decide) rfl rfl ?_
  refine j_iload_n (pc' := 11) cx 1 dX0_shifted_10 rfl rfl ?_
  refine j_bipush (pc' := 13) cx 15 dX0_shifted_11 kb_15 rfl ?_
  refine j_idiv (pc' := 14) cx dX0_shifted_13 kz_15 rfl ?_
  refine j_iload_n (pc' := 15) cx 3 dX0_shifted_14 rfl rfl ?_
  refine j_iadd (pc' := 16) cx dX0_shifted_15 rfl ?_
  refine j_bipush (pc' := 18) cx 10 dX0_shifted_16 kb_10 rfl ?_
  refine j_irem (pc' := 19) cx dX0_shifted_18 kz_10 rfl ?_
  refine j_istore (lv' := [(4, .int (rm ((p0 / 15) + p2) 10)), (3, .int (rm ((rm p0 15) + p1) 15)), (0, .int p0), (1, .int p1), (2, .int p2)]) (pc' := 21) cx dX0_shifted_19 (by decide) rfl rfl ?_
  refine j_bipush (pc' := 23) cx 15 dX0_shifted_21 kb_15 rfl ?_
  refine j_iload (pc' := 25) cx 0 dX0_shifted_23 rfl rfl ?_
  refine j_imul (pc' := 26) cx dX0_shifted_25 rfl ?_
  refine j_iload_n (pc' := 27) cx 1 dX0_shifted_26 rfl rfl ?_
  refine j_iadd (pc' := 28) cx dX0_shifted_27 rfl ?_
  have h_1 := so_i hm
  subst h_1
  exact j_ret cx (Or.inr (Or.inl ⟨_, _, rfl, rfl, dX0_shifted_28, rfl, rfl⟩)) ⟨rfl, rfl⟩
set_option maxHeartbeats 4000000 in
set_option maxRecDepth 100000 in
theorem c_X0_beside (l : Launch) (D : va_G) (cI cZ cC cS : ClassId) (p0 : Int32) (p1 : Int32) (out : Int32) (hm : f_X0_beside p0 p1 = some out) : Ct l yX0_beside cX0_beside 2 (some .int) ({ frames := 1, cells := 0, slots := 0, locals := 24 }) (D, TY cI cZ cC cS) [.int p0, .int p1] [] (jw_P (some (.int out)) []) 0 0 := by
  refine ct_of RX0 (by decide +kernel) rfl (Nat.le_of_ble_eq_true rfl) (fun j cx => ?_)
  unfold f_X0_beside at hm
  show j 0 0 [] [(0, .int p0), (1, .int p1)] 0 []
  refine j_iload_n (pc' := 1) cx 1 dX0_beside_0 rfl rfl ?_
  by_cases k_1 : p1 = 0
  · have h_2 := it_t hm k_1
    refine j_tab_in (tgt := 28) cx dX0_beside_1 k_1 (by decide +kernel) (by decide +kernel) (by first | rfl | decide +kernel) (by decide) ?_
    refine j_iload_n (pc' := 29) cx 0 dX0_beside_28 rfl rfl ?_
    refine j_iconst (pc' := 30) cx 0 dX0_beside_29 ki_0 rfl ?_
    refine j_bipush (pc' := 32) cx 9 dX0_beside_30 kb_9 rfl ?_
    obtain ⟨r1, c2, h_3⟩ := bd_s h_2
    refine j_cS (pc' := 35) cx (c_X0_shifted l D cI cZ cC cS p0 0 9 r1 c2) 3 yk_X0_shifted wM_X0_9 ⟨wT_X0_shifted, wI_X0, wC_X0_shifted⟩ ⟨rfl, rfl, Nat.le_of_ble_eq_true rfl, Nat.le_of_ble_eq_true rfl, Nat.le_of_ble_eq_true rfl, Nat.le_of_ble_eq_true rfl⟩ [] [] [] rfl [] rfl (by decide) [] rfl (by decide) rfl rfl (Nat.le_of_ble_eq_true rfl) dX0_beside_32 rfl ?_
    have h_4 := so_i h_3
    subst h_4
    exact j_ret cx (Or.inr (Or.inl ⟨_, _, rfl, rfl, dX0_beside_35, rfl, rfl⟩)) ⟨rfl, rfl⟩
  · have h_5 := it_f hm k_1
    by_cases k_6 : p1 = 1
    · have h_7 := it_t h_5 k_6
      refine j_tab_in (tgt := 36) cx dX0_beside_1 k_6 (by decide +kernel) (by decide +kernel) (by first | rfl | decide +kernel) (by decide) ?_
      refine j_iload_n (pc' := 37) cx 0 dX0_beside_36 rfl rfl ?_
      refine j_iconst (pc' := 38) cx 1 dX0_beside_37 ki_1 rfl ?_
      refine j_iconst (pc' := 39) cx 0 dX0_beside_38 ki_0 rfl ?_
      obtain ⟨r3, c4, h_8⟩ := bd_s h_7
      refine j_cS (pc' := 42) cx (c_X0_shifted l D cI cZ cC cS p0 1 0 r3 c4) 3 yk_X0_shifted wM_X0_9 ⟨wT_X0_shifted, wI_X0, wC_X0_shifted⟩ ⟨rfl, rfl, Nat.le_of_ble_eq_true rfl, Nat.le_of_ble_eq_true rfl, Nat.le_of_ble_eq_true rfl, Nat.le_of_ble_eq_true rfl⟩ [] [] [] rfl [] rfl (by decide) [] rfl (by decide) rfl rfl (Nat.le_of_ble_eq_true rfl) dX0_beside_39 rfl ?_
      have h_9 := so_i h_8
      subst h_9
      exact j_ret cx (Or.inr (Or.inl ⟨_, _, rfl, rfl, dX0_beside_42, rfl, rfl⟩)) ⟨rfl, rfl⟩
    · have h_10 := it_f h_5 k_6
      by_cases k_11 : p1 = 2
      · have h_12 := it_t h_10 k_11
        refine j_tab_in (tgt := 43) cx dX0_beside_1 k_11 (by decide +kernel) (by decide +kernel) (by first | rfl | decide +kernel) (by decide) ?_
        refine j_iload_n (pc' := 44) cx 0 dX0_beside_43 rfl rfl ?_
        refine j_iconst (pc' := 45) cx 0 dX0_beside_44 ki_0 rfl ?_
        refine j_iconst (pc' := 46) cx 1 dX0_beside_45 ki_1 rfl ?_
        obtain ⟨r5, c6, h_13⟩ := bd_s h_12
        refine j_cS (pc' := 49) cx (c_X0_shifted l D cI cZ cC cS p0 0 1 r5 c6) 3 yk_X0_shifted wM_X0_9 ⟨wT_X0_shifted, wI_X0, wC_X0_shifted⟩ ⟨rfl, rfl, Nat.le_of_ble_eq_true rfl, Nat.le_of_ble_eq_true rfl, Nat.le_of_ble_eq_true rfl, Nat.le_of_ble_eq_true rfl⟩ [] [] [] rfl [] rfl (by decide) [] rfl (by decide) rfl rfl (Nat.le_of_ble_eq_true rfl) dX0_beside_46 rfl ?_
        have h_14 := so_i h_13
        subst h_14
        exact j_ret cx (Or.inr (Or.inl ⟨_, _, rfl, rfl, dX0_beside_49, rfl, rfl⟩)) ⟨rfl, rfl⟩
      · have h_15 := it_f h_10 k_11
        refine j_tab_out (tgt := 50) cx dX0_beside_1 (fun n n1 n2 => ?_) (by decide) ?_
        · have n3 : n = 0 ∨ n = 1 ∨ n = 2 := by omega
          rcases n3 with rfl | rfl | rfl
          · exact k_1
          · exact k_6
          · exact k_11
        · skip
          refine j_iload_n (pc' := 51) cx 0 dX0_beside_50 rfl rfl ?_
          refine j_bipush (pc' := 53) cx 14 dX0_beside_51 kb_14 rfl ?_
          refine j_iconst (pc' := 54) cx 0 dX0_beside_53 ki_0 rfl ?_
          obtain ⟨r7, c8, h_16⟩ := bd_s h_15
          refine j_cS (pc' := 57) cx (c_X0_shifted l D cI cZ cC cS p0 14 0 r7 c8) 3 yk_X0_shifted wM_X0_9 ⟨wT_X0_shifted, wI_X0, wC_X0_shifted⟩ ⟨rfl, rfl, Nat.le_of_ble_eq_true rfl, Nat.le_of_ble_eq_true rfl, Nat.le_of_ble_eq_true rfl, Nat.le_of_ble_eq_true rfl⟩ [] [] [] rfl [] rfl (by decide) [] rfl (by decide) rfl rfl (Nat.le_of_ble_eq_true rfl) dX0_beside_54 rfl ?_
          have h_17 := so_i h_16
          subst h_17
          exact j_ret cx (Or.inr (Or.inl ⟨_, _, rfl, rfl, dX0_beside_57, rfl, rfl⟩)) ⟨rfl, rfl⟩
set_option maxHeartbeats 4000000 in
set_option maxRecDepth 100000 in
theorem c_X0_turnedByHalf (l : Launch) (D : va_G) (cI cZ cC cS : ClassId) (p0 : Int32) (out : Int32) (hm : f_X0_turnedByHalf p0 = some out) : Ct l yX0_turnedByHalf cX0_turnedByHalf 3 (some .int) ({ frames := 0, cells := 0, slots := 0, locals := 0 }) (D, TY cI cZ cC cS) [.int p0] [] (jw_P (some (.int out)) []) 0 0 := by
  refine ct_of RX0 (by decide +kernel) rfl (Nat.le_of_ble_eq_true rfl) (fun j cx => ?_)
  unfold f_X0_turnedByHalf at hm
  show j 0 0 [] [(0, .int p0)] 0 []
  refine j_bipush (pc' := 2) cx 15 dX0_turnedByHalf_0 kb_15 rfl ?_
  refine j_iload_n (pc' := 3) cx 0 dX0_turnedByHalf_2 rfl rfl ?_
  refine j_bipush (pc' := 5) cx 15 dX0_turnedByHalf_3 kb_15 rfl ?_
  refine j_irem (pc' := 6) cx dX0_turnedByHalf_5 kz_15 rfl ?_
  refine j_isub (pc' := 7) cx dX0_turnedByHalf_6 rfl ?_
  refine j_bipush (pc' := 9) cx 15 dX0_turnedByHalf_7 kb_15 rfl ?_
  refine j_irem (pc' := 10) cx dX0_turnedByHalf_9 kz_15 rfl ?_
  refine j_istore_n (lv' := [(1, .int (rm (15 - (rm p0 15)) 15)), (0, .int p0)]) (pc' := 11) cx dX0_turnedByHalf_10 (by decide) rfl rfl ?_
  refine j_bipush (pc' := 13) cx 10 dX0_turnedByHalf_11 kb_10 rfl ?_
  refine j_iload_n (pc' := 14) cx 1 dX0_turnedByHalf_13 rfl rfl ?_
  refine j_bipush (pc' := 16) cx 15 dX0_turnedByHalf_14 kb_15 rfl ?_
  refine j_idiv (pc' := 17) cx dX0_turnedByHalf_16 kz_15 rfl ?_
  refine j_isub (pc' := 18) cx dX0_turnedByHalf_17 rfl ?_
  refine j_bipush (pc' := 20) cx 10 dX0_turnedByHalf_18 kb_10 rfl ?_
  refine j_irem (pc' := 21) cx dX0_turnedByHalf_20 kz_10 rfl ?_
  refine j_istore_n (lv' := [(2, .int (rm (10 - (p0 / 15)) 10)), (1, .int (rm (15 - (rm p0 15)) 15)), (0, .int p0)]) (pc' := 22) cx dX0_turnedByHalf_21 (by decide) rfl rfl ?_
  refine j_bipush (pc' := 24) cx 15 dX0_turnedByHalf_22 kb_15 rfl ?_
  refine j_iload_n (pc' := 25) cx 0 dX0_turnedByHalf_24 rfl rfl ?_
  refine j_imul (pc' := 26) cx dX0_turnedByHalf_25 rfl ?_
  refine j_iload_n (pc' := 27) cx 1 dX0_turnedByHalf_26 rfl rfl ?_
  refine j_iadd (pc' := 28) cx dX0_turnedByHalf_27 rfl ?_
  have h_1 := so_i hm
  subst h_1
  exact j_ret cx (Or.inr (Or.inl ⟨_, _, rfl, rfl, dX0_turnedByHalf_28, rfl, rfl⟩)) ⟨rfl, rfl⟩
set_option maxHeartbeats 4000000 in
set_option maxRecDepth 100000 in
theorem c_X0_opposite (l : Launch) (D : va_G) (cI cZ cC cS : ClassId) (p0 : Int32) (out : Int32) (hm : f_X0_opposite p0 = some out) : Ct l yX0_opposite cX0_opposite 1 (some .int) ({ frames := 0, cells := 0, slots := 0, locals := 0 }) (D, TY cI cZ cC cS) [.int p0] [] (jw_P (some (.int out)) []) 0 0 := by
  refine ct_of RX0 (by decide +kernel) rfl (Nat.le_of_ble_eq_true rfl) (fun j cx => ?_)
  unfold f_X0_opposite at hm
  show j 0 0 [] [(0, .int p0)] 0 []
  refine j_iload_n (pc' := 1) cx 0 dX0_opposite_0 rfl rfl ?_
  refine j_iconst (pc' := 2) cx 2 dX0_opposite_1 ki_2 rfl ?_
  refine j_iadd (pc' := 3) cx dX0_opposite_2 rfl ?_
  refine j_iconst (pc' := 4) cx 4 dX0_opposite_3 ki_4 rfl ?_
  refine j_irem (pc' := 5) cx dX0_opposite_4 kz_4 rfl ?_
  have h_1 := so_i hm
  subst h_1
  exact j_ret cx (Or.inr (Or.inl ⟨_, _, rfl, rfl, dX0_opposite_5, rfl, rfl⟩)) ⟨rfl, rfl⟩
set_option maxHeartbeats 4000000 in
set_option maxRecDepth 100000 in
theorem c_X1_layOut (l : Launch) (D : va_G) (cI cZ cC cS : ClassId) (hNW hNWk hNWt hNWm hNWc hCA hCAo hCAp : Nat) (NWru : Int32) (NWco : Int32) (NWMa : Nat → Int32) (CAow : Nat → Int32) (CApa : Nat → Int32) (out : (Nat → Int32) × (Nat → Int32)) (hm : f_X1_layOut NWco NWMa CAow CApa = some out) : Ct l yX1_layOut cX1_layOut 5 none ({ frames := 2, cells := 0, slots := 0, locals := 45 }) (D, TY cI cZ cC cS) [.ref hCA] [(hNW, .inr (3, [.int NWru, .int NWco, .ref hNWk, .ref hNWt, .ref hNWm, .ref hNWc])), (hNWm, .inl (cI, 30, .inl NWMa)), (hCA, .inr (0, [.ref hNW, .ref hCAo, .ref hCAp])), (hCAo, .inl (cI, 150, .inl CAow)), (hCAp, .inl (cI, 150, .inl CApa))] (jw_P none [(hNW, .inr (3, [.int NWru, .int NWco, .ref hNWk, .ref hNWt, .ref hNWm, .ref hNWc])), (hNWm, .inl (cI, 30, .inl NWMa)), (hCA, .inr (0, [.ref hNW, .ref hCAo, .ref hCAp])), (hCAo, .inl (cI, 150, .inl out.1)), (hCAp, .inl (cI, 150, .inl out.2))]) 0 0 := by
  refine ct_of RX1 (by decide +kernel) rfl (Nat.le_of_ble_eq_true rfl) (fun j cx => ?_)
  unfold f_X1_layOut at hm
  show j 0 0 [(hNW, .inr (3, [.int NWru, .int NWco, .ref hNWk, .ref hNWt, .ref hNWm, .ref hNWc])), (hNWm, .inl (cI, 30, .inl NWMa)), (hCA, .inr (0, [.ref hNW, .ref hCAo, .ref hCAp])), (hCAo, .inl (cI, 150, .inl CAow)), (hCAp, .inl (cI, 150, .inl CApa))] [(0, .ref hCA)] 0 []
  refine j_iconst (pc' := 1) cx 0 dX1_layOut_0 ki_0 rfl ?_
  refine j_istore_n (lv' := [(1, .int 0), (0, .ref hCA)]) (pc' := 2) cx dX1_layOut_1 (by decide) rfl rfl ?_
  obtain ⟨e2, h_1, h_2⟩ := bd_s hm
  have KXe2 : j 0 0 [(hNW, .inr (3, [.int NWru, .int NWco, .ref hNWk, .ref hNWt, .ref hNWm, .ref hNWc])), (hNWm, .inl (cI, 30, .inl NWMa)), (hCA, .inr (0, [.ref hNW, .ref hCAo, .ref hCAp])), (hCAo, .inl (cI, 150, .inl e2.2.1)), (hCAp, .inl (cI, 150, .inl e2.2.2))] [(0, .ref hCA)] 29 [] := by
    refine j_iconst (pc' := 30) cx 0 dX1_layOut_29 ki_0 rfl ?_
    refine j_istore_n (lv' := [(1, .int 0), (0, .ref hCA)]) (pc' := 31) cx dX1_layOut_30 (by decide) rfl rfl ?_
    obtain ⟨e6, h_3, h_4⟩ := bd_s h_2
    have KXe6 : j 0 0 [(hNW, .inr (3, [.int NWru, .int NWco, .ref hNWk, .ref hNWt, .ref hNWm, .ref hNWc])), (hNWm, .inl (cI, 30, .inl NWMa)), (hCA, .inr (0, [.ref hNW, .ref hCAo, .ref hCAp])), (hCAo, .inl (cI, 150, .inl e6.2.1)), (hCAp, .inl (cI, 150, .inl e6.2.2))] [] 101 [] := by
      have h_5 := so_i h_4
      subst h_5
      exact j_ret cx (Or.inl ⟨rfl, dX1_layOut_101, rfl, rfl⟩) ⟨rfl, rfl⟩
    have LPe6 : ∀ (n : Nat) (s5 : Int32 × (Nat → Int32) × (Nat → Int32)), lp (f_X1_layOut_b3 NWco NWMa) n s5 = some e6 → j 0 0 [(hNW, .inr (3, [.int NWru, .int NWco, .ref hNWk, .ref hNWt, .ref hNWm, .ref hNWc])), (hNWm, .inl (cI, 30, .inl NWMa)), (hCA, .inr (0, [.ref hNW, .ref hCAo, .ref hCAp])), (hCAo, .inl (cI, 150, .inl s5.2.1)), (hCAp, .inl (cI, 150, .inl s5.2.2))] [(0, .ref hCA), (1, .int s5.1)] 31 [] := by
      intro n
      induction n with
      | zero => intro s5 z; exact absurd z (by intro z; cases z)
      | succ n ihe6 =>
        intro s5 h_6
        obtain ⟨q_7, h_8, h_9⟩ := bd_s h_6
        unfold f_X1_layOut_b3 at h_8
        refine j_iload_n (pc' := 32) cx 1 dX1_layOut_31 rfl rfl ?_
        refine j_aload_n (pc' := 33) cx 0 dX1_layOut_32 rfl rfl ?_
        refine j_get (C := RX1) (T := TX1) (N := 3) (pc' := 36) cx uB_X1 2 rfl rfl 0 (by decide) wF_X1_12 (.ref hNW) rfl dX1_layOut_33 rfl ?_
        refine j_get (C := RX4) (T := TX4) (N := 6) (pc' := 39) cx uB_X4 0 rfl rfl 1 (by decide) wF_X1_28 (.int NWco) rfl dX1_layOut_36 rfl ?_
        refine j_icmp_ge (tgt := 101) (pc' := 42) cx dX1_layOut_39 (by decide) rfl (fun ch_8 => ?_) (fun ch_8 => ?_)
        · have h_10 := it_t h_8 ch_8
          have h_11 := so_i h_10
          subst h_11
          have h_12 := so_i (se_r h_9)
          subst h_12
          refine j_lv (lv' := []) cx [] rfl ?_
          exact KXe6
        · have h_13 := it_f h_8 ch_8
          refine j_aload_n (pc' := 43) cx 0 dX1_layOut_42 rfl rfl ?_
          refine j_get (C := RX1) (T := TX1) (N := 3) (pc' := 46) cx uB_X1 2 rfl rfl 0 (by decide) wF_X1_12 (.ref hNW) rfl dX1_layOut_43 rfl ?_
          refine j_get (C := RX4) (T := TX4) (N := 6) (pc' := 49) cx uB_X4 0 rfl rfl 4 (by decide) wF_X1_32 (.ref hNWm) rfl dX1_layOut_46 rfl ?_
          refine j_iload_n (pc' := 50) cx 1 dX1_layOut_49 rfl rfl ?_
          obtain ⟨i7, h_14⟩ := ck_s h_13
          refine j_iald (pc' := 51) cx 1 0 rfl rfl i7 dX1_layOut_50 rfl ?_
          refine j_istore_n (lv' := [(2, .int (NWMa s5.1.toNatClampNeg)), (0, .ref hCA), (1, .int s5.1)]) (pc' := 52) cx dX1_layOut_51 (by decide) rfl rfl ?_
          refine j_aload_n (pc' := 53) cx 1 dX1_layOut_52 rfl rfl ?_
          refine j_get (C := RX1) (T := TX1) (N := 3) (pc' := 56) cx uB_X1 2 rfl rfl 1 (by decide) wF_X1_18 (.ref hCAo) rfl dX1_layOut_53 rfl ?_
          refine j_iload_n (pc' := 57) cx 0 dX1_layOut_56 rfl rfl ?_
          refine j_iload_n (pc' := 58) cx 2 dX1_layOut_57 rfl rfl ?_
          obtain ⟨i8, h_15⟩ := ck_s h_14
          refine j_iast (ws' := [(hNW, .inr (3, [.int NWru, .int NWco, .ref hNWk, .ref hNWt, .ref hNWm, .ref hNWc])), (hNWm, .inl (cI, 30, .inl NWMa)), (hCA, .inr (0, [.ref hNW, .ref hCAo, .ref hCAp])), (hCAo, .inl (cI, 150, .inl (upd s5.2.1 (NWMa s5.1.toNatClampNeg).toNatClampNeg s5.1))), (hCAp, .inl (cI, 150, .inl s5.2.2))]) (pc' := 59) cx 3 0 rfl rfl i8 rfl dX1_layOut_58 rfl ?_
          refine j_iconst (pc' := 60) cx 0 dX1_layOut_59 ki_0 rfl ?_
          refine j_istore_n (lv' := [(3, .int 0), (2, .int (NWMa s5.1.toNatClampNeg)), (0, .ref hCA), (1, .int s5.1)]) (pc' := 61) cx dX1_layOut_60 (by decide) rfl rfl ?_
          obtain ⟨e10, h_16, h_17⟩ := bd_s h_15
          have KXe10 : j 0 0 [(hNW, .inr (3, [.int NWru, .int NWco, .ref hNWk, .ref hNWt, .ref hNWm, .ref hNWc])), (hNWm, .inl (cI, 30, .inl NWMa)), (hCA, .inr (0, [.ref hNW, .ref hCAo, .ref hCAp])), (hCAo, .inl (cI, 150, .inl e10.2.1)), (hCAp, .inl (cI, 150, .inl e10.2.2))] [(0, .ref hCA), (1, .int s5.1)] 95 [] := by
            refine j_iinc (v := (s5.1 + 1)) (lv' := [(1, .int (s5.1 + 1)), (0, .ref hCA)]) (pc' := 98) cx 1 dX1_layOut_95 rfl (kn_1 _) (by decide) rfl rfl ?_
            refine j_goto (pc' := 31) cx dX1_layOut_98 (by decide) ?_
            have h_18 := so_i h_17
            subst h_18
            refine j_lv (lv' := [(0, .ref hCA), (1, .int (s5.1 + 1))]) cx [1, 0] rfl ?_
            exact ihe6 _ (se_l h_9)
          have LPe10 : ∀ (n : Nat) (s9 : Int32 × (Nat → Int32) × (Nat → Int32)), lp (f_X1_layOut_b2 NWMa s5) n s9 = some e10 → j 0 0 [(hNW, .inr (3, [.int NWru, .int NWco, .ref hNWk, .ref hNWt, .ref hNWm, .ref hNWc])), (hNWm, .inl (cI, 30, .inl NWMa)), (hCA, .inr (0, [.ref hNW, .ref hCAo, .ref hCAp])), (hCAo, .inl (cI, 150, .inl s9.2.1)), (hCAp, .inl (cI, 150, .inl s9.2.2))] [(0, .ref hCA), (1, .int s5.1), (2, .int (NWMa s5.1.toNatClampNeg)), (3, .int s9.1)] 61 [] := by
            intro n
            induction n with
            | zero => intro s9 z; exact absurd z (by intro z; cases z)
            | succ n ihe10 =>
              intro s9 h_19
              obtain ⟨q_20, h_21, h_22⟩ := bd_s h_19
              unfold f_X1_layOut_b2 at h_21
              refine j_iload_n (pc' := 62) cx 3 dX1_layOut_61 rfl rfl ?_
              refine j_iconst (pc' := 63) cx 4 dX1_layOut_62 ki_4 rfl ?_
              refine j_icmp_ge (tgt := 95) (pc' := 66) cx dX1_layOut_63 (by decide) rfl (fun ch_21 => ?_) (fun ch_21 => ?_)
              · have h_23 := it_t h_21 ch_21
                have h_24 := so_i h_23
                subst h_24
                have h_25 := so_i (se_r h_22)
                subst h_25
                refine j_lv (lv' := [(0, .ref hCA), (1, .int s5.1)]) cx [0, 1] rfl ?_
                exact KXe10
              · have h_26 := it_f h_21 ch_21
                refine j_iload_n (pc' := 67) cx 2 dX1_layOut_66 rfl rfl ?_
                refine j_iload_n (pc' := 68) cx 3 dX1_layOut_67 rfl rfl ?_
                obtain ⟨r11, c12, h_27⟩ := bd_s h_26
                refine j_cS (pc' := 71) cx (c_X0_beside l D cI cZ cC cS (NWMa s5.1.toNatClampNeg) s9.1 r11 c12) 2 yk_X0_beside wM_X1_35 ⟨wT_X0_beside, wI_X0, wC_X0_beside⟩ ⟨rfl, rfl, Nat.le_of_ble_eq_true rfl, Nat.le_of_ble_eq_true rfl, Nat.le_of_ble_eq_true rfl, Nat.le_of_ble_eq_true rfl⟩ [] [0, 1, 2, 3, 4] [0, 1, 2, 3, 4] rfl [(hNW, .inr (3, [.int NWru, .int NWco, .ref hNWk, .ref hNWt, .ref hNWm, .ref hNWc])), (hNWm, .inl (cI, 30, .inl NWMa)), (hCA, .inr (0, [.ref hNW, .ref hCAo, .ref hCAp])), (hCAo, .inl (cI, 150, .inl s9.2.1)), (hCAp, .inl (cI, 150, .inl s9.2.2))] rfl (by decide) [(hNW, .inr (3, [.int NWru, .int NWco, .ref hNWk, .ref hNWt, .ref hNWm, .ref hNWc])), (hNWm, .inl (cI, 30, .inl NWMa)), (hCA, .inr (0, [.ref hNW, .ref hCAo, .ref hCAp])), (hCAo, .inl (cI, 150, .inl s9.2.1)), (hCAp, .inl (cI, 150, .inl s9.2.2))] rfl (by decide) rfl rfl (Nat.le_of_ble_eq_true rfl) dX1_layOut_68 rfl ?_
                refine j_istore (lv' := [(4, .int r11), (0, .ref hCA), (1, .int s5.1), (2, .int (NWMa s5.1.toNatClampNeg)), (3, .int s9.1)]) (pc' := 73) cx dX1_layOut_71 (by decide) rfl rfl ?_
                refine j_aload_n (pc' := 74) cx 1 dX1_layOut_73 rfl rfl ?_
                refine j_get (C := RX1) (T := TX1) (N := 3) (pc' := 77) cx uB_X1 2 rfl rfl 1 (by decide) wF_X1_18 (.ref hCAo) rfl dX1_layOut_74 rfl ?_
                refine j_iload (pc' := 79) cx 0 dX1_layOut_77 rfl rfl ?_
                refine j_iload_n (pc' := 80) cx 2 dX1_layOut_79 rfl rfl ?_
                obtain ⟨i13, h_28⟩ := ck_s h_27
                refine j_iast (ws' := [(hNW, .inr (3, [.int NWru, .int NWco, .ref hNWk, .ref hNWt, .ref hNWm, .ref hNWc])), (hNWm, .inl (cI, 30, .inl NWMa)), (hCA, .inr (0, [.ref hNW, .ref hCAo, .ref hCAp])), (hCAo, .inl (cI, 150, .inl (upd s9.2.1 r11.toNatClampNeg s5.1))), (hCAp, .inl (cI, 150, .inl s9.2.2))]) (pc' := 81) cx 3 0 rfl rfl i13 rfl dX1_layOut_80 rfl ?_
                refine j_aload_n (pc' := 82) cx 1 dX1_layOut_81 rfl rfl ?_
                refine j_get (C := RX1) (T := TX1) (N := 3) (pc' := 85) cx uB_X1 2 rfl rfl 2 (by decide) wF_X1_22 (.ref hCAp) rfl dX1_layOut_82 rfl ?_
                refine j_iload (pc' := 87) cx 0 dX1_layOut_85 rfl rfl ?_
                refine j_iload_n (pc' := 88) cx 4 dX1_layOut_87 rfl rfl ?_
                obtain ⟨i14, h_29⟩ := ck_s h_28
                refine j_iast (ws' := [(hNW, .inr (3, [.int NWru, .int NWco, .ref hNWk, .ref hNWt, .ref hNWm, .ref hNWc])), (hNWm, .inl (cI, 30, .inl NWMa)), (hCA, .inr (0, [.ref hNW, .ref hCAo, .ref hCAp])), (hCAo, .inl (cI, 150, .inl (upd s9.2.1 r11.toNatClampNeg s5.1))), (hCAp, .inl (cI, 150, .inl (upd s9.2.2 r11.toNatClampNeg s9.1)))]) (pc' := 89) cx 4 0 rfl rfl i14 rfl dX1_layOut_88 rfl ?_
                refine j_iinc (v := (s9.1 + 1)) (lv' := [(3, .int (s9.1 + 1)), (4, .int r11), (0, .ref hCA), (1, .int s5.1), (2, .int (NWMa s5.1.toNatClampNeg))]) (pc' := 92) cx 4 dX1_layOut_89 rfl (kn_1 _) (by decide) rfl rfl ?_
                refine j_goto (pc' := 61) cx dX1_layOut_92 (by decide) ?_
                have h_30 := so_i h_29
                subst h_30
                refine j_lv (lv' := [(0, .ref hCA), (1, .int s5.1), (2, .int (NWMa s5.1.toNatClampNeg)), (3, .int (s9.1 + 1))]) cx [2, 3, 4, 0] rfl ?_
                exact ihe10 _ (se_l h_22)
          refine j_lv (lv' := [(0, .ref hCA), (1, .int s5.1), (2, .int (NWMa s5.1.toNatClampNeg)), (3, .int 0)]) cx [2, 3, 1, 0] rfl ?_
          exact LPe10 _ _ h_16
    refine j_lv (lv' := [(0, .ref hCA), (1, .int 0)]) cx [1, 0] rfl ?_
    exact LPe6 _ _ h_3
  have LPe2 : ∀ (n : Nat) (s1 : Int32 × (Nat → Int32) × (Nat → Int32)), lp (f_X1_layOut_b1) n s1 = some e2 → j 0 0 [(hNW, .inr (3, [.int NWru, .int NWco, .ref hNWk, .ref hNWt, .ref hNWm, .ref hNWc])), (hNWm, .inl (cI, 30, .inl NWMa)), (hCA, .inr (0, [.ref hNW, .ref hCAo, .ref hCAp])), (hCAo, .inl (cI, 150, .inl s1.2.1)), (hCAp, .inl (cI, 150, .inl s1.2.2))] [(0, .ref hCA), (1, .int s1.1)] 2 [] := by
    intro n
    induction n with
    | zero => intro s1 z; exact absurd z (by intro z; cases z)
    | succ n ihe2 =>
      intro s1 h_31
      obtain ⟨q_32, h_33, h_34⟩ := bd_s h_31
      unfold f_X1_layOut_b1 at h_33
      refine j_iload_n (pc' := 3) cx 1 dX1_layOut_2 rfl rfl ?_
      refine j_sipush (pc' := 6) cx 150 dX1_layOut_3 ks_150 rfl ?_
      refine j_icmp_ge (tgt := 29) (pc' := 9) cx dX1_layOut_6 (by decide) rfl (fun ch_33 => ?_) (fun ch_33 => ?_)
      · have h_35 := it_t h_33 ch_33
        have h_36 := so_i h_35
        subst h_36
        have h_37 := so_i (se_r h_34)
        subst h_37
        refine j_lv (lv' := [(0, .ref hCA)]) cx [0] rfl ?_
        exact KXe2
      · have h_38 := it_f h_33 ch_33
        refine j_aload_n (pc' := 10) cx 0 dX1_layOut_9 rfl rfl ?_
        refine j_get (C := RX1) (T := TX1) (N := 3) (pc' := 13) cx uB_X1 2 rfl rfl 1 (by decide) wF_X1_18 (.ref hCAo) rfl dX1_layOut_10 rfl ?_
        refine j_iload_n (pc' := 14) cx 1 dX1_layOut_13 rfl rfl ?_
        refine j_iconst (pc' := 15) cx (-1) dX1_layOut_14 ki_m1 rfl ?_
        obtain ⟨i3, h_39⟩ := ck_s h_38
        refine j_iast (ws' := [(hNW, .inr (3, [.int NWru, .int NWco, .ref hNWk, .ref hNWt, .ref hNWm, .ref hNWc])), (hNWm, .inl (cI, 30, .inl NWMa)), (hCA, .inr (0, [.ref hNW, .ref hCAo, .ref hCAp])), (hCAo, .inl (cI, 150, .inl (upd s1.2.1 s1.1.toNatClampNeg (-1)))), (hCAp, .inl (cI, 150, .inl s1.2.2))]) (pc' := 16) cx 3 0 rfl rfl i3 rfl dX1_layOut_15 rfl ?_
        refine j_aload_n (pc' := 17) cx 0 dX1_layOut_16 rfl rfl ?_
        refine j_get (C := RX1) (T := TX1) (N := 3) (pc' := 20) cx uB_X1 2 rfl rfl 2 (by decide) wF_X1_22 (.ref hCAp) rfl dX1_layOut_17 rfl ?_
        refine j_iload_n (pc' := 21) cx 1 dX1_layOut_20 rfl rfl ?_
        refine j_iconst (pc' := 22) cx 4 dX1_layOut_21 ki_4 rfl ?_
        obtain ⟨i4, h_40⟩ := ck_s h_39
        refine j_iast (ws' := [(hNW, .inr (3, [.int NWru, .int NWco, .ref hNWk, .ref hNWt, .ref hNWm, .ref hNWc])), (hNWm, .inl (cI, 30, .inl NWMa)), (hCA, .inr (0, [.ref hNW, .ref hCAo, .ref hCAp])), (hCAo, .inl (cI, 150, .inl (upd s1.2.1 s1.1.toNatClampNeg (-1)))), (hCAp, .inl (cI, 150, .inl (upd s1.2.2 s1.1.toNatClampNeg 4)))]) (pc' := 23) cx 4 0 rfl rfl i4 rfl dX1_layOut_22 rfl ?_
        refine j_iinc (v := (s1.1 + 1)) (lv' := [(1, .int (s1.1 + 1)), (0, .ref hCA)]) (pc' := 26) cx 1 dX1_layOut_23 rfl (kn_1 _) (by decide) rfl rfl ?_
        refine j_goto (pc' := 2) cx dX1_layOut_26 (by decide) ?_
        have h_41 := so_i h_40
        subst h_41
        refine j_lv (lv' := [(0, .ref hCA), (1, .int (s1.1 + 1))]) cx [1, 0] rfl ?_
        exact ihe2 _ (se_l h_34)
  refine j_lv (lv' := [(0, .ref hCA), (1, .int 0)]) cx [1, 0] rfl ?_
  exact LPe2 _ _ h_1
set_option maxHeartbeats 4000000 in
set_option maxRecDepth 100000 in
theorem c_X1_ownerOf (l : Launch) (D : va_G) (cI cZ cC cS : ClassId) (hNW hCA hCAo hCAp : Nat) (CAow : Nat → Int32) (p0 : Int32) (out : Int32) (hm : f_X1_ownerOf CAow p0 = some out) : Ct l yX1_ownerOf cX1_ownerOf 2 (some .int) ({ frames := 0, cells := 0, slots := 0, locals := 0 }) (D, TY cI cZ cC cS) [.ref hCA, .int p0] [(hCA, .inr (0, [.ref hNW, .ref hCAo, .ref hCAp])), (hCAo, .inl (cI, 150, .inl CAow))] (jw_P (some (.int out)) [(hCA, .inr (0, [.ref hNW, .ref hCAo, .ref hCAp])), (hCAo, .inl (cI, 150, .inl CAow))]) 0 0 := by
  refine ct_of RX1 (by decide +kernel) rfl (Nat.le_of_ble_eq_true rfl) (fun j cx => ?_)
  unfold f_X1_ownerOf at hm
  show j 0 0 [(hCA, .inr (0, [.ref hNW, .ref hCAo, .ref hCAp])), (hCAo, .inl (cI, 150, .inl CAow))] [(0, .ref hCA), (1, .int p0)] 0 []
  refine j_aload_n (pc' := 1) cx 0 dX1_ownerOf_0 rfl rfl ?_
  refine j_get (C := RX1) (T := TX1) (N := 3) (pc' := 4) cx uB_X1 0 rfl rfl 1 (by decide) wF_X1_18 (.ref hCAo) rfl dX1_ownerOf_1 rfl ?_
  refine j_iload_n (pc' := 5) cx 1 dX1_ownerOf_4 rfl rfl ?_
  obtain ⟨i1, h_1⟩ := ck_s hm
  refine j_iald (pc' := 6) cx 1 0 rfl rfl i1 dX1_ownerOf_5 rfl ?_
  have h_2 := so_i h_1
  subst h_2
  exact j_ret cx (Or.inr (Or.inl ⟨_, _, rfl, rfl, dX1_ownerOf_6, rfl, rfl⟩)) ⟨rfl, rfl⟩
set_option maxHeartbeats 4000000 in
set_option maxRecDepth 100000 in
theorem c_X1_partOn (l : Launch) (D : va_G) (cI cZ cC cS : ClassId) (hNW hCA hCAo hCAp : Nat) (CApa : Nat → Int32) (p0 : Int32) (out : Int32) (hm : f_X1_partOn CApa p0 = some out) : Ct l yX1_partOn cX1_partOn 2 (some .int) ({ frames := 0, cells := 0, slots := 0, locals := 0 }) (D, TY cI cZ cC cS) [.ref hCA, .int p0] [(hCA, .inr (0, [.ref hNW, .ref hCAo, .ref hCAp])), (hCAp, .inl (cI, 150, .inl CApa))] (jw_P (some (.int out)) [(hCA, .inr (0, [.ref hNW, .ref hCAo, .ref hCAp])), (hCAp, .inl (cI, 150, .inl CApa))]) 0 0 := by
  refine ct_of RX1 (by decide +kernel) rfl (Nat.le_of_ble_eq_true rfl) (fun j cx => ?_)
  unfold f_X1_partOn at hm
  show j 0 0 [(hCA, .inr (0, [.ref hNW, .ref hCAo, .ref hCAp])), (hCAp, .inl (cI, 150, .inl CApa))] [(0, .ref hCA), (1, .int p0)] 0 []
  refine j_aload_n (pc' := 1) cx 0 dX1_partOn_0 rfl rfl ?_
  refine j_get (C := RX1) (T := TX1) (N := 3) (pc' := 4) cx uB_X1 0 rfl rfl 2 (by decide) wF_X1_22 (.ref hCAp) rfl dX1_partOn_1 rfl ?_
  refine j_iload_n (pc' := 5) cx 1 dX1_partOn_4 rfl rfl ?_
  obtain ⟨i1, h_1⟩ := ck_s hm
  refine j_iald (pc' := 6) cx 1 0 rfl rfl i1 dX1_partOn_5 rfl ?_
  have h_2 := so_i h_1
  subst h_2
  exact j_ret cx (Or.inr (Or.inl ⟨_, _, rfl, rfl, dX1_partOn_6, rfl, rfl⟩)) ⟨rfl, rfl⟩
set_option maxHeartbeats 4000000 in
set_option maxRecDepth 100000 in
theorem c_X1_isFree (l : Launch) (D : va_G) (cI cZ cC cS : ClassId) (hNW hCA hCAo hCAp : Nat) (CAow : Nat → Int32) (p0 : Int32) (out : Int32) (hm : f_X1_isFree CAow p0 = some out) : Ct l yX1_isFree cX1_isFree 2 (some .boolean) ({ frames := 0, cells := 0, slots := 0, locals := 0 }) (D, TY cI cZ cC cS) [.ref hCA, .int p0] [(hCA, .inr (0, [.ref hNW, .ref hCAo, .ref hCAp])), (hCAo, .inl (cI, 150, .inl CAow))] (jw_P (some (.int out)) [(hCA, .inr (0, [.ref hNW, .ref hCAo, .ref hCAp])), (hCAo, .inl (cI, 150, .inl CAow))]) 0 0 := by
  refine ct_of RX1 (by decide +kernel) rfl (Nat.le_of_ble_eq_true rfl) (fun j cx => ?_)
  unfold f_X1_isFree at hm
  show j 0 0 [(hCA, .inr (0, [.ref hNW, .ref hCAo, .ref hCAp])), (hCAo, .inl (cI, 150, .inl CAow))] [(0, .ref hCA), (1, .int p0)] 0 []
  refine j_aload_n (pc' := 1) cx 0 dX1_isFree_0 rfl rfl ?_
  refine j_get (C := RX1) (T := TX1) (N := 3) (pc' := 4) cx uB_X1 0 rfl rfl 1 (by decide) wF_X1_18 (.ref hCAo) rfl dX1_isFree_1 rfl ?_
  refine j_iload_n (pc' := 5) cx 1 dX1_isFree_4 rfl rfl ?_
  obtain ⟨i1, h_1⟩ := ck_s hm
  refine j_iald (pc' := 6) cx 1 0 rfl rfl i1 dX1_isFree_5 rfl ?_
  refine j_iconst (pc' := 7) cx (-1) dX1_isFree_6 ki_m1 rfl ?_
  obtain ⟨t2, h_3, h_2⟩ := bd_s h_1
  have Kt2 : j 0 0 [(hCA, .inr (0, [.ref hNW, .ref hCAo, .ref hCAp])), (hCAo, .inl (cI, 150, .inl CAow))] [] 15 [.int t2] := by
    obtain ⟨b3, h_4⟩ := ckP_s h_2
    have h_5 := so_i h_4
    subst h_5
    exact j_ret cx (Or.inr (Or.inl ⟨_, _, rfl, (nz_n b3), dX1_isFree_15, rfl, rfl⟩)) ⟨rfl, rfl⟩
  refine j_icmp_ne (tgt := 14) (pc' := 10) cx dX1_isFree_7 (by decide) rfl (fun ch_3 => ?_) (fun ch_3 => ?_)
  · have h_6 := it_f h_3 ch_3
    refine j_iconst (pc' := 15) cx 0 dX1_isFree_14 ki_0 rfl ?_
    have h_7 := so_i h_6
    subst h_7
    refine j_lv (lv' := []) cx [] rfl ?_
    exact Kt2
  · have h_8 := it_t h_3 ch_3
    refine j_iconst (pc' := 11) cx 1 dX1_isFree_10 ki_1 rfl ?_
    refine j_goto (pc' := 15) cx dX1_isFree_11 (by decide) ?_
    have h_9 := so_i h_8
    subst h_9
    refine j_lv (lv' := []) cx [] rfl ?_
    exact Kt2
set_option maxHeartbeats 4000000 in
set_option maxRecDepth 100000 in
theorem c_X1_hasArmOfOther (l : Launch) (D : va_G) (cI cZ cC cS : ClassId) (hNW hCA hCAo hCAp : Nat) (CAow : Nat → Int32) (CApa : Nat → Int32) (p0 : Int32) (p1 : Int32) (out : Int32) (hm : f_X1_hasArmOfOther CAow CApa p0 p1 = some out) : Ct l yX1_hasArmOfOther cX1_hasArmOfOther 4 (some .boolean) ({ frames := 0, cells := 0, slots := 0, locals := 0 }) (D, TY cI cZ cC cS) [.ref hCA, .int p0, .int p1] [(hCA, .inr (0, [.ref hNW, .ref hCAo, .ref hCAp])), (hCAo, .inl (cI, 150, .inl CAow)), (hCAp, .inl (cI, 150, .inl CApa))] (jw_P (some (.int out)) [(hCA, .inr (0, [.ref hNW, .ref hCAo, .ref hCAp])), (hCAo, .inl (cI, 150, .inl CAow)), (hCAp, .inl (cI, 150, .inl CApa))]) 0 0 := by
  refine ct_of RX1 (by decide +kernel) rfl (Nat.le_of_ble_eq_true rfl) (fun j cx => ?_)
  unfold f_X1_hasArmOfOther at hm
  show j 0 0 [(hCA, .inr (0, [.ref hNW, .ref hCAo, .ref hCAp])), (hCAo, .inl (cI, 150, .inl CAow)), (hCAp, .inl (cI, 150, .inl CApa))] [(0, .ref hCA), (1, .int p0), (2, .int p1)] 0 []
  refine j_aload_n (pc' := 1) cx 0 dX1_hasArmOfOther_0 rfl rfl ?_
  refine j_get (C := RX1) (T := TX1) (N := 3) (pc' := 4) cx uB_X1 0 rfl rfl 1 (by decide) wF_X1_18 (.ref hCAo) rfl dX1_hasArmOfOther_1 rfl ?_
  refine j_iload_n (pc' := 5) cx 1 dX1_hasArmOfOther_4 rfl rfl ?_
  obtain ⟨i1, h_1⟩ := ck_s hm
  refine j_iald (pc' := 6) cx 1 0 rfl rfl i1 dX1_hasArmOfOther_5 rfl ?_
  refine j_istore_n (lv' := [(3, .int (CAow p0.toNatClampNeg)), (0, .ref hCA), (1, .int p0), (2, .int p1)]) (pc' := 7) cx dX1_hasArmOfOther_6 (by decide) rfl rfl ?_
  refine j_iload_n (pc' := 8) cx 0 dX1_hasArmOfOther_7 rfl rfl ?_
  refine j_iconst (pc' := 9) cx (-1) dX1_hasArmOfOther_8 ki_m1 rfl ?_
  obtain ⟨t3, h_3, h_2⟩ := bd_s h_1
  have Kt3 : j 0 0 [(hCA, .inr (0, [.ref hNW, .ref hCAo, .ref hCAp])), (hCAo, .inl (cI, 150, .inl CAow)), (hCAp, .inl (cI, 150, .inl CApa))] [] 32 [.int t3] := by
    obtain ⟨b4, h_4⟩ := ckP_s h_2
    have h_5 := so_i h_4
    subst h_5
    exact j_ret cx (Or.inr (Or.inl ⟨_, _, rfl, (nz_n b4), dX1_hasArmOfOther_32, rfl, rfl⟩)) ⟨rfl, rfl⟩
  refine j_icmp_eq (tgt := 31) (pc' := 12) cx dX1_hasArmOfOther_9 (by decide) rfl (fun ch_3 => ?_) (fun ch_3 => ?_)
  · have h_6 := it_t h_3 ch_3
    refine j_iconst (pc' := 32) cx 0 dX1_hasArmOfOther_31 ki_0 rfl ?_
    have h_7 := so_i h_6
    subst h_7
    refine j_lv (lv' := []) cx [] rfl ?_
    exact Kt3
  · have h_8 := it_f h_3 ch_3
    refine j_iload_n (pc' := 13) cx 0 dX1_hasArmOfOther_12 rfl rfl ?_
    refine j_iload_n (pc' := 14) cx 3 dX1_hasArmOfOther_13 rfl rfl ?_
    refine j_icmp_eq (tgt := 31) (pc' := 17) cx dX1_hasArmOfOther_14 (by decide) rfl (fun ch_8 => ?_) (fun ch_8 => ?_)
    · have h_9 := it_t h_8 ch_8
      refine j_iconst (pc' := 32) cx 0 dX1_hasArmOfOther_31 ki_0 rfl ?_
      have h_10 := so_i h_9
      subst h_10
      refine j_lv (lv' := []) cx [] rfl ?_
      exact Kt3
    · have h_11 := it_f h_8 ch_8
      refine j_aload_n (pc' := 18) cx 1 dX1_hasArmOfOther_17 rfl rfl ?_
      refine j_get (C := RX1) (T := TX1) (N := 3) (pc' := 21) cx uB_X1 0 rfl rfl 2 (by decide) wF_X1_22 (.ref hCAp) rfl dX1_hasArmOfOther_18 rfl ?_
      refine j_iload_n (pc' := 22) cx 2 dX1_hasArmOfOther_21 rfl rfl ?_
      obtain ⟨i2, h_12⟩ := ck_s h_11
      refine j_iald (pc' := 23) cx 2 0 rfl rfl i2 dX1_hasArmOfOther_22 rfl ?_
      refine j_iconst (pc' := 24) cx 4 dX1_hasArmOfOther_23 ki_4 rfl ?_
      refine j_icmp_eq (tgt := 31) (pc' := 27) cx dX1_hasArmOfOther_24 (by decide) rfl (fun ch_12 => ?_) (fun ch_12 => ?_)
      · have h_13 := it_t h_12 ch_12
        refine j_iconst (pc' := 32) cx 0 dX1_hasArmOfOther_31 ki_0 rfl ?_
        have h_14 := so_i h_13
        subst h_14
        refine j_lv (lv' := []) cx [] rfl ?_
        exact Kt3
      · have h_15 := it_f h_12 ch_12
        refine j_iconst (pc' := 28) cx 1 dX1_hasArmOfOther_27 ki_1 rfl ?_
        refine j_goto (pc' := 32) cx dX1_hasArmOfOther_28 (by decide) ?_
        have h_16 := so_i h_15
        subst h_16
        refine j_lv (lv' := []) cx [] rfl ?_
        exact Kt3
set_option maxHeartbeats 4000000 in
set_option maxRecDepth 100000 in
theorem c_X4_colourTowards (l : Launch) (D : va_G) (cI cZ cC cS : ClassId) (hST hSTk hSTt hSTm hSTc : Nat) (STru : Int32) (STco : Int32) (STCa : Nat → Int32) (p0 : Int32) (p1 : Int32) (p2 : Int32) (out : Int32) (hm : f_X4_colourTowards STCa p0 p1 p2 = some out) : Ct l yX4_colourTowards cX4_colourTowards 5 (some .int) ({ frames := 0, cells := 0, slots := 0, locals := 0 }) (D, TY cI cZ cC cS) [.ref hST, .int p0, .int p1, .int p2] [(hST, .inr (3, [.int STru, .int STco, .ref hSTk, .ref hSTt, .ref hSTm, .ref hSTc])), (hSTc, .inl (cI, 24, .inl STCa))] (jw_P (some (.int out)) [(hST, .inr (3, [.int STru, .int STco, .ref hSTk, .ref hSTt, .ref hSTm, .ref hSTc])), (hSTc, .inl (cI, 24, .inl STCa))]) 0 0 := by
  refine ct_of RX4 (by decide +kernel) rfl (Nat.le_of_ble_eq_true rfl) (fun j cx => ?_)
  unfold f_X4_colourTowards at hm
  show j 0 0 [(hST, .inr (3, [.int STru, .int STco, .ref hSTk, .ref hSTt, .ref hSTm, .ref hSTc])), (hSTc, .inl (cI, 24, .inl STCa))] [(0, .ref hST), (1, .int p0), (2, .int p1), (3, .int p2)] 0 []
  refine j_iload_n (pc' := 1) cx 1 dX4_colourTowards_0 rfl rfl ?_
  refine j_iload_n (pc' := 2) cx 3 dX4_colourTowards_1 rfl rfl ?_
  refine j_isub (pc' := 3) cx dX4_colourTowards_2 rfl ?_
  refine j_iconst (pc' := 4) cx 4 dX4_colourTowards_3 ki_4 rfl ?_
  refine j_iadd (pc' := 5) cx dX4_colourTowards_4 rfl ?_
  refine j_iconst (pc' := 6) cx 4 dX4_colourTowards_5 ki_4 rfl ?_
  refine j_irem (pc' := 7) cx dX4_colourTowards_6 kz_4 rfl ?_
  refine j_istore (lv' := [(4, .int (rm ((p0 - p2) + 4) 4)), (0, .ref hST), (1, .int p0), (2, .int p1), (3, .int p2)]) (pc' := 9) cx dX4_colourTowards_7 (by decide) rfl rfl ?_
  refine j_aload_n (pc' := 10) cx 1 dX4_colourTowards_9 rfl rfl ?_
  refine j_get (C := RX4) (T := TX4) (N := 6) (pc' := 13) cx uB_X4 0 rfl rfl 5 (by decide) wF_X4_28 (.ref hSTc) rfl dX4_colourTowards_10 rfl ?_
  refine j_iconst (pc' := 14) cx 4 dX4_colourTowards_13 ki_4 rfl ?_
  refine j_iload_n (pc' := 15) cx 3 dX4_colourTowards_14 rfl rfl ?_
  refine j_imul (pc' := 16) cx dX4_colourTowards_15 rfl ?_
  refine j_iload (pc' := 18) cx 0 dX4_colourTowards_16 rfl rfl ?_
  refine j_iadd (pc' := 19) cx dX4_colourTowards_18 rfl ?_
  obtain ⟨i1, h_1⟩ := ck_s hm
  refine j_iald (pc' := 20) cx 1 0 rfl rfl i1 dX4_colourTowards_19 rfl ?_
  have h_2 := so_i h_1
  subst h_2
  exact j_ret cx (Or.inr (Or.inl ⟨_, _, rfl, rfl, dX4_colourTowards_20, rfl, rfl⟩)) ⟨rfl, rfl⟩
set_option maxHeartbeats 4000000 in
set_option maxRecDepth 100000 in
theorem c_X1_colourShown (l : Launch) (D : va_G) (cI cZ cC cS : ClassId) (hNW hNWk hNWt hNWm hNWc hCA hCAo hCAp : Nat) (NWru : Int32) (NWco : Int32) (NWKa : Nat → Int32) (NWTa : Nat → Int32) (NWCa : Nat → Int32) (p0 : Int32) (p1 : Int32) (out : Int32) (hm : f_X1_colourShown NWKa NWTa NWCa p0 p1 = some out) : Ct l yX1_colourShown cX1_colourShown 3 (some .int) ({ frames := 1, cells := 0, slots := 0, locals := 24 }) (D, TY cI cZ cC cS) [.ref hCA, .int p0, .int p1] [(hNW, .inr (3, [.int NWru, .int NWco, .ref hNWk, .ref hNWt, .ref hNWm, .ref hNWc])), (hNWk, .inl (cI, 30, .inl NWKa)), (hNWt, .inl (cI, 30, .inl NWTa)), (hNWc, .inl (cI, 24, .inl NWCa)), (hCA, .inr (0, [.ref hNW, .ref hCAo, .ref hCAp]))] (jw_P (some (.int out)) [(hNW, .inr (3, [.int NWru, .int NWco, .ref hNWk, .ref hNWt, .ref hNWm, .ref hNWc])), (hNWk, .inl (cI, 30, .inl NWKa)), (hNWt, .inl (cI, 30, .inl NWTa)), (hNWc, .inl (cI, 24, .inl NWCa)), (hCA, .inr (0, [.ref hNW, .ref hCAo, .ref hCAp]))]) 0 0 := by
  refine ct_of RX1 (by decide +kernel) rfl (Nat.le_of_ble_eq_true rfl) (fun j cx => ?_)
  unfold f_X1_colourShown at hm
  show j 0 0 [(hNW, .inr (3, [.int NWru, .int NWco, .ref hNWk, .ref hNWt, .ref hNWm, .ref hNWc])), (hNWk, .inl (cI, 30, .inl NWKa)), (hNWt, .inl (cI, 30, .inl NWTa)), (hNWc, .inl (cI, 24, .inl NWCa)), (hCA, .inr (0, [.ref hNW, .ref hCAo, .ref hCAp]))] [(0, .ref hCA), (1, .int p0), (2, .int p1)] 0 []
  refine j_aload_n (pc' := 1) cx 0 dX1_colourShown_0 rfl rfl ?_
  refine j_get (C := RX1) (T := TX1) (N := 3) (pc' := 4) cx uB_X1 4 rfl rfl 0 (by decide) wF_X1_12 (.ref hNW) rfl dX1_colourShown_1 rfl ?_
  refine j_iload_n (pc' := 5) cx 2 dX1_colourShown_4 rfl rfl ?_
  refine j_aload_n (pc' := 6) cx 0 dX1_colourShown_5 rfl rfl ?_
  refine j_get (C := RX1) (T := TX1) (N := 3) (pc' := 9) cx uB_X1 4 rfl rfl 0 (by decide) wF_X1_12 (.ref hNW) rfl dX1_colourShown_6 rfl ?_
  refine j_get (C := RX4) (T := TX4) (N := 6) (pc' := 12) cx uB_X4 0 rfl rfl 2 (by decide) wF_X1_41 (.ref hNWk) rfl dX1_colourShown_9 rfl ?_
  refine j_iload_n (pc' := 13) cx 1 dX1_colourShown_12 rfl rfl ?_
  obtain ⟨i1, h_1⟩ := ck_s hm
  refine j_iald (pc' := 14) cx 1 0 rfl rfl i1 dX1_colourShown_13 rfl ?_
  refine j_aload_n (pc' := 15) cx 0 dX1_colourShown_14 rfl rfl ?_
  refine j_get (C := RX1) (T := TX1) (N := 3) (pc' := 18) cx uB_X1 4 rfl rfl 0 (by decide) wF_X1_12 (.ref hNW) rfl dX1_colourShown_15 rfl ?_
  refine j_get (C := RX4) (T := TX4) (N := 6) (pc' := 21) cx uB_X4 0 rfl rfl 3 (by decide) wF_X1_44 (.ref hNWt) rfl dX1_colourShown_18 rfl ?_
  refine j_iload_n (pc' := 22) cx 1 dX1_colourShown_21 rfl rfl ?_
  obtain ⟨i2, h_2⟩ := ck_s h_1
  refine j_iald (pc' := 23) cx 2 0 rfl rfl i2 dX1_colourShown_22 rfl ?_
  obtain ⟨r3, c4, h_3⟩ := bd_s h_2
  refine j_cV (pc' := 26) cx (c_X4_colourTowards l D cI cZ cC cS hNW hNWk hNWt hNWm hNWc NWru NWco NWCa p1 (NWKa p0.toNatClampNeg) (NWTa p0.toNatClampNeg) r3 c4) 3 yk_X4_colourTowards wM_X1_47 ⟨wN_X4_colourTowards, wS_X4_colourTowards, wI_X4, wC_X4_colourTowards⟩ ⟨rfl, rfl, Nat.le_of_ble_eq_true rfl, Nat.le_of_ble_eq_true rfl, Nat.le_of_ble_eq_true rfl, Nat.le_of_ble_eq_true rfl⟩ [0, 3] [1, 2, 4] [3, 0, 1, 4, 2] rfl [(hNWk, .inl (cI, 30, .inl NWKa)), (hNWt, .inl (cI, 30, .inl NWTa)), (hCA, .inr (0, [.ref hNW, .ref hCAo, .ref hCAp]))] rfl (by decide) [(hNW, .inr (3, [.int NWru, .int NWco, .ref hNWk, .ref hNWt, .ref hNWm, .ref hNWc])), (hNWk, .inl (cI, 30, .inl NWKa)), (hNWt, .inl (cI, 30, .inl NWTa)), (hNWc, .inl (cI, 24, .inl NWCa)), (hCA, .inr (0, [.ref hNW, .ref hCAo, .ref hCAp]))] rfl (by decide) 0 3 rfl rfl rfl rfl rfl (Nat.le_of_ble_eq_true rfl) dX1_colourShown_23 rfl ?_
  have h_4 := so_i h_3
  subst h_4
  exact j_ret cx (Or.inr (Or.inl ⟨_, _, rfl, rfl, dX1_colourShown_26, rfl, rfl⟩)) ⟨rfl, rfl⟩
set_option maxHeartbeats 4000000 in
set_option maxRecDepth 100000 in
theorem c_X1_coloursClash (l : Launch) (D : va_G) (cI cZ cC cS : ClassId) (hNW hNWk hNWt hNWm hNWc hCA hCAo hCAp : Nat) (NWru : Int32) (NWco : Int32) (p0 : Int32) (p1 : Int32) (out : Int32) (hm : f_X1_coloursClash NWru p0 p1 = some out) : Ct l yX1_coloursClash cX1_coloursClash 3 (some .boolean) ({ frames := 0, cells := 0, slots := 0, locals := 0 }) (D, TY cI cZ cC cS) [.ref hCA, .int p0, .int p1] [(hNW, .inr (3, [.int NWru, .int NWco, .ref hNWk, .ref hNWt, .ref hNWm, .ref hNWc])), (hCA, .inr (0, [.ref hNW, .ref hCAo, .ref hCAp]))] (jw_P (some (.int out)) [(hNW, .inr (3, [.int NWru, .int NWco, .ref hNWk, .ref hNWt, .ref hNWm, .ref hNWc])), (hCA, .inr (0, [.ref hNW, .ref hCAo, .ref hCAp]))]) 0 0 := by
  refine ct_of RX1 (by decide +kernel) rfl (Nat.le_of_ble_eq_true rfl) (fun j cx => ?_)
  unfold f_X1_coloursClash at hm
  show j 0 0 [(hNW, .inr (3, [.int NWru, .int NWco, .ref hNWk, .ref hNWt, .ref hNWm, .ref hNWc])), (hCA, .inr (0, [.ref hNW, .ref hCAo, .ref hCAp]))] [(0, .ref hCA), (1, .int p0), (2, .int p1)] 0 []
  refine j_aload_n (pc' := 1) cx 0 dX1_coloursClash_0 rfl rfl ?_
  refine j_get (C := RX1) (T := TX1) (N := 3) (pc' := 4) cx uB_X1 1 rfl rfl 0 (by decide) wF_X1_12 (.ref hNW) rfl dX1_coloursClash_1 rfl ?_
  refine j_get (C := RX4) (T := TX4) (N := 6) (pc' := 7) cx uB_X4 0 rfl rfl 0 (by decide) wF_X1_83 (.int NWru) rfl dX1_coloursClash_4 rfl ?_
  by_cases k_1 : NWru = 0
  · have h_2 := it_t hm k_1
    refine j_look (tgt := 32) (off := 25) cx dX1_coloursClash_7 (by decide +kernel) (jw_lk k_1 (by decide +kernel)) (by decide) ?_
    refine j_iload_n (pc' := 33) cx 1 dX1_coloursClash_32 rfl rfl ?_
    refine j_iload_n (pc' := 34) cx 2 dX1_coloursClash_33 rfl rfl ?_
    obtain ⟨t1, h_4, h_3⟩ := bd_s h_2
    have Kt1 : j 0 0 [(hNW, .inr (3, [.int NWru, .int NWco, .ref hNWk, .ref hNWt, .ref hNWm, .ref hNWc])), (hCA, .inr (0, [.ref hNW, .ref hCAo, .ref hCAp]))] [] 42 [.int t1] := by
      obtain ⟨b2, h_5⟩ := ckP_s h_3
      have h_6 := so_i h_5
      subst h_6
      exact j_ret cx (Or.inr (Or.inl ⟨_, _, rfl, (nz_n b2), dX1_coloursClash_42, rfl, rfl⟩)) ⟨rfl, rfl⟩
    refine j_icmp_eq (tgt := 41) (pc' := 37) cx dX1_coloursClash_34 (by decide) rfl (fun ch_4 => ?_) (fun ch_4 => ?_)
    · have h_7 := it_t h_4 ch_4
      refine j_iconst (pc' := 42) cx 0 dX1_coloursClash_41 ki_0 rfl ?_
      have h_8 := so_i h_7
      subst h_8
      refine j_lv (lv' := []) cx [] rfl ?_
      exact Kt1
    · have h_9 := it_f h_4 ch_4
      refine j_iconst (pc' := 38) cx 1 dX1_coloursClash_37 ki_1 rfl ?_
      refine j_goto (pc' := 42) cx dX1_coloursClash_38 (by decide) ?_
      have h_10 := so_i h_9
      subst h_10
      refine j_lv (lv' := []) cx [] rfl ?_
      exact Kt1
  · have h_11 := it_f hm k_1
    by_cases k_12 : NWru = 1
    · have h_13 := it_t h_11 k_12
      refine j_look (tgt := 43) (off := 36) cx dX1_coloursClash_7 (by decide +kernel) (jw_lk k_12 (by decide +kernel)) (by decide) ?_
      refine j_iload_n (pc' := 44) cx 1 dX1_coloursClash_43 rfl rfl ?_
      refine j_iload_n (pc' := 45) cx 2 dX1_coloursClash_44 rfl rfl ?_
      obtain ⟨t3, h_15, h_14⟩ := bd_s h_13
      have Kt3 : j 0 0 [(hNW, .inr (3, [.int NWru, .int NWco, .ref hNWk, .ref hNWt, .ref hNWm, .ref hNWc])), (hCA, .inr (0, [.ref hNW, .ref hCAo, .ref hCAp]))] [] 53 [.int t3] := by
        obtain ⟨b4, h_16⟩ := ckP_s h_14
        have h_17 := so_i h_16
        subst h_17
        exact j_ret cx (Or.inr (Or.inl ⟨_, _, rfl, (nz_n b4), dX1_coloursClash_53, rfl, rfl⟩)) ⟨rfl, rfl⟩
      refine j_icmp_ne (tgt := 52) (pc' := 48) cx dX1_coloursClash_45 (by decide) rfl (fun ch_15 => ?_) (fun ch_15 => ?_)
      · have h_18 := it_f h_15 ch_15
        refine j_iconst (pc' := 53) cx 0 dX1_coloursClash_52 ki_0 rfl ?_
        have h_19 := so_i h_18
        subst h_19
        refine j_lv (lv' := []) cx [] rfl ?_
        exact Kt3
      · have h_20 := it_t h_15 ch_15
        refine j_iconst (pc' := 49) cx 1 dX1_coloursClash_48 ki_1 rfl ?_
        refine j_goto (pc' := 53) cx dX1_coloursClash_49 (by decide) ?_
        have h_21 := so_i h_20
        subst h_21
        refine j_lv (lv' := []) cx [] rfl ?_
        exact Kt3
    · have h_22 := it_f h_11 k_12
      refine j_look (tgt := 54) (off := 47) cx dX1_coloursClash_7 (by decide +kernel) (by simp [Op.lookupswitch.offset, jw_ne3 k_1 (show (0 : Int32).toInt = 0 from by decide +kernel), jw_ne3 k_12 (show (1 : Int32).toInt = 1 from by decide +kernel)]) (by decide) ?_
      refine j_iconst (pc' := 55) cx 0 dX1_coloursClash_54 ki_0 rfl ?_
      have h_23 := so_i h_22
      subst h_23
      exact j_ret cx (Or.inr (Or.inl ⟨_, _, rfl, (by decide +kernel), dX1_coloursClash_55, rfl, rfl⟩)) ⟨rfl, rfl⟩
set_option maxHeartbeats 4000000 in
set_option maxRecDepth 100000 in
theorem c_X1_wouldClash (l : Launch) (D : va_G) (cI cZ cC cS : ClassId) (hNW hNWk hNWt hNWm hNWc hCA hCAo hCAp : Nat) (NWru : Int32) (NWco : Int32) (NWKa : Nat → Int32) (NWTa : Nat → Int32) (NWCa : Nat → Int32) (CAow : Nat → Int32) (CApa : Nat → Int32) (p0 : Int32) (p1 : Int32) (p2 : Int32) (p3 : Int32) (out : Int32) (hm : f_X1_wouldClash NWru NWKa NWTa NWCa CAow CApa p0 p1 p2 p3 = some out) : Ct l yX1_wouldClash cX1_wouldClash 10 (some .boolean) ({ frames := 2, cells := 0, slots := 0, locals := 46 }) (D, TY cI cZ cC cS) [.ref hCA, .int p0, .int p1, .int p2, .int p3] [(hNW, .inr (3, [.int NWru, .int NWco, .ref hNWk, .ref hNWt, .ref hNWm, .ref hNWc])), (hNWk, .inl (cI, 30, .inl NWKa)), (hNWt, .inl (cI, 30, .inl NWTa)), (hNWc, .inl (cI, 24, .inl NWCa)), (hCA, .inr (0, [.ref hNW, .ref hCAo, .ref hCAp])), (hCAo, .inl (cI, 150, .inl CAow)), (hCAp, .inl (cI, 150, .inl CApa))] (jw_P (some (.int out)) [(hNW, .inr (3, [.int NWru, .int NWco, .ref hNWk, .ref hNWt, .ref hNWm, .ref hNWc])), (hNWk, .inl (cI, 30, .inl NWKa)), (hNWt, .inl (cI, 30, .inl NWTa)), (hNWc, .inl (cI, 24, .inl NWCa)), (hCA, .inr (0, [.ref hNW, .ref hCAo, .ref hCAp])), (hCAo, .inl (cI, 150, .inl CAow)), (hCAp, .inl (cI, 150, .inl CApa))]) 0 0 := by
  refine ct_of RX1 (by decide +kernel) rfl (Nat.le_of_ble_eq_true rfl) (fun j cx => ?_)
  unfold f_X1_wouldClash at hm
  show j 0 0 [(hNW, .inr (3, [.int NWru, .int NWco, .ref hNWk, .ref hNWt, .ref hNWm, .ref hNWc])), (hNWk, .inl (cI, 30, .inl NWKa)), (hNWt, .inl (cI, 30, .inl NWTa)), (hNWc, .inl (cI, 24, .inl NWCa)), (hCA, .inr (0, [.ref hNW, .ref hCAo, .ref hCAp])), (hCAo, .inl (cI, 150, .inl CAow)), (hCAp, .inl (cI, 150, .inl CApa))] [(0, .ref hCA), (1, .int p0), (2, .int p1), (3, .int p2), (4, .int p3)] 0 []
  refine j_iconst (pc' := 1) cx 0 dX1_wouldClash_0 ki_0 rfl ?_
  refine j_istore (lv' := [(5, .int 0), (0, .ref hCA), (1, .int p0), (2, .int p1), (3, .int p2), (4, .int p3)]) (pc' := 3) cx dX1_wouldClash_1 (by decide) rfl rfl ?_
  obtain ⟨e2, h_1, h_2⟩ := bd_s hm
  have KXe2 : ∀ e2x, e2 = .inl e2x → j 0 0 [(hNW, .inr (3, [.int NWru, .int NWco, .ref hNWk, .ref hNWt, .ref hNWm, .ref hNWc])), (hNWk, .inl (cI, 30, .inl NWKa)), (hNWt, .inl (cI, 30, .inl NWTa)), (hNWc, .inl (cI, 24, .inl NWCa)), (hCA, .inr (0, [.ref hNW, .ref hCAo, .ref hCAp])), (hCAo, .inl (cI, 150, .inl CAow)), (hCAp, .inl (cI, 150, .inl CApa))] [] 100 [] := by
    intro e2x ze2
    subst ze2
    have h_3 := se_l h_2
    refine j_iconst (pc' := 101) cx 0 dX1_wouldClash_100 ki_0 rfl ?_
    have h_4 := so_i h_3
    subst h_4
    exact j_ret cx (Or.inr (Or.inl ⟨_, _, rfl, (by decide +kernel), dX1_wouldClash_101, rfl, rfl⟩)) ⟨rfl, rfl⟩
  have LPe2 : ∀ (n : Nat) (s1 : Int32), lp (f_X1_wouldClash_b2 NWru NWKa NWTa NWCa CAow CApa p0 p1 p2 p3) n s1 = some e2 → j 0 0 [(hNW, .inr (3, [.int NWru, .int NWco, .ref hNWk, .ref hNWt, .ref hNWm, .ref hNWc])), (hNWk, .inl (cI, 30, .inl NWKa)), (hNWt, .inl (cI, 30, .inl NWTa)), (hNWc, .inl (cI, 24, .inl NWCa)), (hCA, .inr (0, [.ref hNW, .ref hCAo, .ref hCAp])), (hCAo, .inl (cI, 150, .inl CAow)), (hCAp, .inl (cI, 150, .inl CApa))] [(0, .ref hCA), (1, .int p0), (2, .int p1), (3, .int p2), (4, .int p3), (5, .int s1)] 3 [] := by
    intro n
    induction n with
    | zero => intro s1 z; exact absurd z (by intro z; cases z)
    | succ n ihe2 =>
      intro s1 h_5
      obtain ⟨q_6, h_7, h_8⟩ := bd_s h_5
      unfold f_X1_wouldClash_b2 at h_7
      refine j_iload (pc' := 5) cx 5 dX1_wouldClash_3 rfl rfl ?_
      refine j_iconst (pc' := 6) cx 4 dX1_wouldClash_5 ki_4 rfl ?_
      refine j_icmp_ge (tgt := 100) (pc' := 9) cx dX1_wouldClash_6 (by decide) rfl (fun ch_7 => ?_) (fun ch_7 => ?_)
      · have h_9 := it_t h_7 ch_7
        have h_10 := so_i h_9
        subst h_10
        have h_11 := so_i (se_r h_8)
        subst h_11
        refine j_lv (lv' := []) cx [] rfl ?_
        exact KXe2 _ rfl
      · have h_12 := it_f h_7 ch_7
        refine j_aload_n (pc' := 10) cx 0 dX1_wouldClash_9 rfl rfl ?_
        refine j_get (C := RX1) (T := TX1) (N := 3) (pc' := 13) cx uB_X1 4 rfl rfl 0 (by decide) wF_X1_12 (.ref hNW) rfl dX1_wouldClash_10 rfl ?_
        refine j_iload (pc' := 15) cx 5 dX1_wouldClash_13 rfl rfl ?_
        refine j_iload_n (pc' := 16) cx 1 dX1_wouldClash_15 rfl rfl ?_
        refine j_iload_n (pc' := 17) cx 2 dX1_wouldClash_16 rfl rfl ?_
        obtain ⟨r3, c4, h_13⟩ := bd_s h_12
        refine j_cV (pc' := 20) cx (c_X4_colourTowards l D cI cZ cC cS hNW hNWk hNWt hNWm hNWc NWru NWco NWCa s1 p0 p1 r3 c4) 3 yk_X4_colourTowards wM_X1_47 ⟨wN_X4_colourTowards, wS_X4_colourTowards, wI_X4, wC_X4_colourTowards⟩ ⟨rfl, rfl, Nat.le_of_ble_eq_true rfl, Nat.le_of_ble_eq_true rfl, Nat.le_of_ble_eq_true rfl, Nat.le_of_ble_eq_true rfl⟩ [0, 3] [1, 2, 4, 5, 6] [5, 0, 1, 6, 2, 3, 4] rfl [(hNWk, .inl (cI, 30, .inl NWKa)), (hNWt, .inl (cI, 30, .inl NWTa)), (hCA, .inr (0, [.ref hNW, .ref hCAo, .ref hCAp])), (hCAo, .inl (cI, 150, .inl CAow)), (hCAp, .inl (cI, 150, .inl CApa))] rfl (by decide) [(hNW, .inr (3, [.int NWru, .int NWco, .ref hNWk, .ref hNWt, .ref hNWm, .ref hNWc])), (hNWk, .inl (cI, 30, .inl NWKa)), (hNWt, .inl (cI, 30, .inl NWTa)), (hNWc, .inl (cI, 24, .inl NWCa)), (hCA, .inr (0, [.ref hNW, .ref hCAo, .ref hCAp])), (hCAo, .inl (cI, 150, .inl CAow)), (hCAp, .inl (cI, 150, .inl CApa))] rfl (by decide) 0 3 rfl rfl rfl rfl rfl (Nat.le_of_ble_eq_true rfl) dX1_wouldClash_17 rfl ?_
        refine j_istore (lv' := [(6, .int r3), (0, .ref hCA), (1, .int p0), (2, .int p1), (3, .int p2), (4, .int p3), (5, .int s1)]) (pc' := 22) cx dX1_wouldClash_20 (by decide) rfl rfl ?_
        refine j_iload_n (pc' := 23) cx 4 dX1_wouldClash_22 rfl rfl ?_
        refine j_iload (pc' := 25) cx 6 dX1_wouldClash_23 rfl rfl ?_
        obtain ⟨r5, c6, h_14⟩ := bd_s h_13
        refine j_cS (pc' := 28) cx (c_X0_beside l D cI cZ cC cS p2 s1 r5 c6) 2 yk_X0_beside wM_X1_35 ⟨wT_X0_beside, wI_X0, wC_X0_beside⟩ ⟨rfl, rfl, Nat.le_of_ble_eq_true rfl, Nat.le_of_ble_eq_true rfl, Nat.le_of_ble_eq_true rfl, Nat.le_of_ble_eq_true rfl⟩ [] [0, 1, 2, 3, 4, 5, 6] [0, 1, 2, 3, 4, 5, 6] rfl [(hNW, .inr (3, [.int NWru, .int NWco, .ref hNWk, .ref hNWt, .ref hNWm, .ref hNWc])), (hNWk, .inl (cI, 30, .inl NWKa)), (hNWt, .inl (cI, 30, .inl NWTa)), (hNWc, .inl (cI, 24, .inl NWCa)), (hCA, .inr (0, [.ref hNW, .ref hCAo, .ref hCAp])), (hCAo, .inl (cI, 150, .inl CAow)), (hCAp, .inl (cI, 150, .inl CApa))] rfl (by decide) [(hNW, .inr (3, [.int NWru, .int NWco, .ref hNWk, .ref hNWt, .ref hNWm, .ref hNWc])), (hNWk, .inl (cI, 30, .inl NWKa)), (hNWt, .inl (cI, 30, .inl NWTa)), (hNWc, .inl (cI, 24, .inl NWCa)), (hCA, .inr (0, [.ref hNW, .ref hCAo, .ref hCAp])), (hCAo, .inl (cI, 150, .inl CAow)), (hCAp, .inl (cI, 150, .inl CApa))] rfl (by decide) rfl rfl (Nat.le_of_ble_eq_true rfl) dX1_wouldClash_25 rfl ?_
        refine j_istore (lv' := [(7, .int r5), (6, .int r3), (0, .ref hCA), (1, .int p0), (2, .int p1), (3, .int p2), (4, .int p3), (5, .int s1)]) (pc' := 30) cx dX1_wouldClash_28 (by decide) rfl rfl ?_
        refine j_iconst (pc' := 31) cx 0 dX1_wouldClash_30 ki_0 rfl ?_
        refine j_istore (lv' := [(8, .int 0), (7, .int r5), (6, .int r3), (0, .ref hCA), (1, .int p0), (2, .int p1), (3, .int p2), (4, .int p3), (5, .int s1)]) (pc' := 33) cx dX1_wouldClash_31 (by decide) rfl rfl ?_
        obtain ⟨e8, h_15, h_16⟩ := bd_s h_14
        have KXe8 : ∀ e8x, e8 = .inl e8x → j 0 0 [(hNW, .inr (3, [.int NWru, .int NWco, .ref hNWk, .ref hNWt, .ref hNWm, .ref hNWc])), (hNWk, .inl (cI, 30, .inl NWKa)), (hNWt, .inl (cI, 30, .inl NWTa)), (hNWc, .inl (cI, 24, .inl NWCa)), (hCA, .inr (0, [.ref hNW, .ref hCAo, .ref hCAp])), (hCAo, .inl (cI, 150, .inl CAow)), (hCAp, .inl (cI, 150, .inl CApa))] [(0, .ref hCA), (1, .int p0), (2, .int p1), (3, .int p2), (4, .int p3), (5, .int s1)] 94 [] := by
          intro e8x ze8
          subst ze8
          have h_17 := se_l h_16
          refine j_iinc (v := (s1 + 1)) (lv' := [(5, .int (s1 + 1)), (0, .ref hCA), (1, .int p0), (2, .int p1), (3, .int p2), (4, .int p3)]) (pc' := 97) cx 5 dX1_wouldClash_94 rfl (kn_1 _) (by decide) rfl rfl ?_
          refine j_goto (pc' := 3) cx dX1_wouldClash_97 (by decide) ?_
          have h_18 := so_i h_17
          subst h_18
          refine j_lv (lv' := [(0, .ref hCA), (1, .int p0), (2, .int p1), (3, .int p2), (4, .int p3), (5, .int (s1 + 1))]) cx [1, 2, 3, 4, 5, 0] rfl ?_
          exact ihe2 _ (se_l h_8)
        have LPe8 : ∀ (n : Nat) (s7 : Int32), lp (f_X1_wouldClash_b1 NWru NWKa NWTa NWCa CAow CApa p3 r3 r5) n s7 = some e8 → j 0 0 [(hNW, .inr (3, [.int NWru, .int NWco, .ref hNWk, .ref hNWt, .ref hNWm, .ref hNWc])), (hNWk, .inl (cI, 30, .inl NWKa)), (hNWt, .inl (cI, 30, .inl NWTa)), (hNWc, .inl (cI, 24, .inl NWCa)), (hCA, .inr (0, [.ref hNW, .ref hCAo, .ref hCAp])), (hCAo, .inl (cI, 150, .inl CAow)), (hCAp, .inl (cI, 150, .inl CApa))] [(0, .ref hCA), (1, .int p0), (2, .int p1), (3, .int p2), (4, .int p3), (5, .int s1), (6, .int r3), (7, .int r5), (8, .int s7)] 33 [] := by
          intro n
          induction n with
          | zero => intro s7 z; exact absurd z (by intro z; cases z)
          | succ n ihe8 =>
            intro s7 h_19
            obtain ⟨q_20, h_21, h_22⟩ := bd_s h_19
            unfold f_X1_wouldClash_b1 at h_21
            refine j_iload (pc' := 35) cx 8 dX1_wouldClash_33 rfl rfl ?_
            refine j_iconst (pc' := 36) cx 4 dX1_wouldClash_35 ki_4 rfl ?_
            refine j_icmp_ge (tgt := 94) (pc' := 39) cx dX1_wouldClash_36 (by decide) rfl (fun ch_21 => ?_) (fun ch_21 => ?_)
            · have h_23 := it_t h_21 ch_21
              have h_24 := so_i h_23
              subst h_24
              have h_25 := so_i (se_r h_22)
              subst h_25
              refine j_lv (lv' := [(0, .ref hCA), (1, .int p0), (2, .int p1), (3, .int p2), (4, .int p3), (5, .int s1)]) cx [0, 1, 2, 3, 4, 5] rfl ?_
              exact KXe8 _ rfl
            · have h_26 := it_f h_21 ch_21
              refine j_iload (pc' := 41) cx 7 dX1_wouldClash_39 rfl rfl ?_
              refine j_iload (pc' := 43) cx 8 dX1_wouldClash_41 rfl rfl ?_
              obtain ⟨r9, c10, h_27⟩ := bd_s h_26
              refine j_cS (pc' := 46) cx (c_X0_beside l D cI cZ cC cS r5 s7 r9 c10) 2 yk_X0_beside wM_X1_35 ⟨wT_X0_beside, wI_X0, wC_X0_beside⟩ ⟨rfl, rfl, Nat.le_of_ble_eq_true rfl, Nat.le_of_ble_eq_true rfl, Nat.le_of_ble_eq_true rfl, Nat.le_of_ble_eq_true rfl⟩ [] [0, 1, 2, 3, 4, 5, 6] [0, 1, 2, 3, 4, 5, 6] rfl [(hNW, .inr (3, [.int NWru, .int NWco, .ref hNWk, .ref hNWt, .ref hNWm, .ref hNWc])), (hNWk, .inl (cI, 30, .inl NWKa)), (hNWt, .inl (cI, 30, .inl NWTa)), (hNWc, .inl (cI, 24, .inl NWCa)), (hCA, .inr (0, [.ref hNW, .ref hCAo, .ref hCAp])), (hCAo, .inl (cI, 150, .inl CAow)), (hCAp, .inl (cI, 150, .inl CApa))] rfl (by decide) [(hNW, .inr (3, [.int NWru, .int NWco, .ref hNWk, .ref hNWt, .ref hNWm, .ref hNWc])), (hNWk, .inl (cI, 30, .inl NWKa)), (hNWt, .inl (cI, 30, .inl NWTa)), (hNWc, .inl (cI, 24, .inl NWCa)), (hCA, .inr (0, [.ref hNW, .ref hCAo, .ref hCAp])), (hCAo, .inl (cI, 150, .inl CAow)), (hCAp, .inl (cI, 150, .inl CApa))] rfl (by decide) rfl rfl (Nat.le_of_ble_eq_true rfl) dX1_wouldClash_43 rfl ?_
              refine j_istore (lv' := [(9, .int r9), (0, .ref hCA), (1, .int p0), (2, .int p1), (3, .int p2), (4, .int p3), (5, .int s1), (6, .int r3), (7, .int r5), (8, .int s7)]) (pc' := 48) cx dX1_wouldClash_46 (by decide) rfl rfl ?_
              refine j_aload_n (pc' := 49) cx 1 dX1_wouldClash_48 rfl rfl ?_
              refine j_iload (pc' := 51) cx 0 dX1_wouldClash_49 rfl rfl ?_
              refine j_iload (pc' := 53) cx 5 dX1_wouldClash_51 rfl rfl ?_
              obtain ⟨r11, c12, h_28⟩ := bd_s h_27
              refine j_cV (pc' := 56) cx (c_X1_hasArmOfOther l D cI cZ cC cS hNW hCA hCAo hCAp CAow CApa r9 p3 r11 c12) 2 yk_X1_hasArmOfOther wM_X1_55 ⟨wN_X1_hasArmOfOther, wS_X1_hasArmOfOther, wI_X1, wC_X1_hasArmOfOther⟩ ⟨rfl, rfl, Nat.le_of_ble_eq_true rfl, Nat.le_of_ble_eq_true rfl, Nat.le_of_ble_eq_true rfl, Nat.le_of_ble_eq_true rfl⟩ [4, 5, 6] [0, 1, 2, 3] [0, 1, 2, 3, 4, 5, 6] rfl [(hNW, .inr (3, [.int NWru, .int NWco, .ref hNWk, .ref hNWt, .ref hNWm, .ref hNWc])), (hNWk, .inl (cI, 30, .inl NWKa)), (hNWt, .inl (cI, 30, .inl NWTa)), (hNWc, .inl (cI, 24, .inl NWCa))] rfl (by decide) [(hNW, .inr (3, [.int NWru, .int NWco, .ref hNWk, .ref hNWt, .ref hNWm, .ref hNWc])), (hNWk, .inl (cI, 30, .inl NWKa)), (hNWt, .inl (cI, 30, .inl NWTa)), (hNWc, .inl (cI, 24, .inl NWCa)), (hCA, .inr (0, [.ref hNW, .ref hCAo, .ref hCAp])), (hCAo, .inl (cI, 150, .inl CAow)), (hCAp, .inl (cI, 150, .inl CApa))] rfl (by decide) 4 0 rfl rfl rfl rfl rfl (Nat.le_of_ble_eq_true rfl) dX1_wouldClash_53 rfl ?_
              refine j_if_eq (tgt := 88) (pc' := 59) cx dX1_wouldClash_56 (by decide) rfl (fun ch_28 => ?_) (fun ch_28 => ?_)
              · have h_29 := it_t h_28 ch_28
                refine j_iinc (v := (s7 + 1)) (lv' := [(8, .int (s7 + 1)), (9, .int r9), (0, .ref hCA), (1, .int p0), (2, .int p1), (3, .int p2), (4, .int p3), (5, .int s1), (6, .int r3), (7, .int r5)]) (pc' := 91) cx 9 dX1_wouldClash_88 rfl (kn_1 _) (by decide) rfl rfl ?_
                refine j_goto (pc' := 33) cx dX1_wouldClash_91 (by decide) ?_
                have h_30 := so_i h_29
                subst h_30
                refine j_lv (lv' := [(0, .ref hCA), (1, .int p0), (2, .int p1), (3, .int p2), (4, .int p3), (5, .int s1), (6, .int r3), (7, .int r5), (8, .int (s7 + 1))]) cx [2, 3, 4, 5, 6, 7, 8, 9, 0] rfl ?_
                exact ihe8 _ (se_l h_22)
              · have h_31 := it_f h_28 ch_28
                refine j_aload_n (pc' := 60) cx 1 dX1_wouldClash_59 rfl rfl ?_
                refine j_iload (pc' := 62) cx 7 dX1_wouldClash_60 rfl rfl ?_
                refine j_aload_n (pc' := 63) cx 1 dX1_wouldClash_62 rfl rfl ?_
                refine j_aload_n (pc' := 64) cx 1 dX1_wouldClash_63 rfl rfl ?_
                refine j_get (C := RX1) (T := TX1) (N := 3) (pc' := 67) cx uB_X1 4 rfl rfl 1 (by decide) wF_X1_18 (.ref hCAo) rfl dX1_wouldClash_64 rfl ?_
                refine j_iload (pc' := 69) cx 0 dX1_wouldClash_67 rfl rfl ?_
                obtain ⟨i13, h_32⟩ := ck_s h_31
                refine j_iald (pc' := 70) cx 5 0 rfl rfl i13 dX1_wouldClash_69 rfl ?_
                refine j_aload_n (pc' := 71) cx 1 dX1_wouldClash_70 rfl rfl ?_
                refine j_get (C := RX1) (T := TX1) (N := 3) (pc' := 74) cx uB_X1 4 rfl rfl 2 (by decide) wF_X1_22 (.ref hCAp) rfl dX1_wouldClash_71 rfl ?_
                refine j_iload (pc' := 76) cx 0 dX1_wouldClash_74 rfl rfl ?_
                obtain ⟨i14, h_33⟩ := ck_s h_32
                refine j_iald (pc' := 77) cx 6 0 rfl rfl i14 dX1_wouldClash_76 rfl ?_
                obtain ⟨r15, c16, h_34⟩ := bd_s h_33
                refine j_cV (pc' := 80) cx (c_X1_colourShown l D cI cZ cC cS hNW hNWk hNWt hNWm hNWc hCA hCAo hCAp NWru NWco NWKa NWTa NWCa (CAow r9.toNatClampNeg) (CApa r9.toNatClampNeg) r15 c16) 2 yk_X1_colourShown wM_X1_59 ⟨wN_X1_colourShown, wS_X1_colourShown, wI_X1, wC_X1_colourShown⟩ ⟨rfl, rfl, Nat.le_of_ble_eq_true rfl, Nat.le_of_ble_eq_true rfl, Nat.le_of_ble_eq_true rfl, Nat.le_of_ble_eq_true rfl⟩ [0, 1, 2, 3, 4] [5, 6] [2, 3, 4, 5, 6, 0, 1] rfl [(hCAo, .inl (cI, 150, .inl CAow)), (hCAp, .inl (cI, 150, .inl CApa))] rfl (by decide) [(hNW, .inr (3, [.int NWru, .int NWco, .ref hNWk, .ref hNWt, .ref hNWm, .ref hNWc])), (hNWk, .inl (cI, 30, .inl NWKa)), (hNWt, .inl (cI, 30, .inl NWTa)), (hNWc, .inl (cI, 24, .inl NWCa)), (hCA, .inr (0, [.ref hNW, .ref hCAo, .ref hCAp])), (hCAo, .inl (cI, 150, .inl CAow)), (hCAp, .inl (cI, 150, .inl CApa))] rfl (by decide) 4 0 rfl rfl rfl rfl rfl (Nat.le_of_ble_eq_true rfl) dX1_wouldClash_77 rfl ?_
                obtain ⟨r17, c18, h_35⟩ := bd_s h_34
                refine j_cV (pc' := 83) cx (c_X1_coloursClash l D cI cZ cC cS hNW hNWk hNWt hNWm hNWc hCA hCAo hCAp NWru NWco r3 r15 r17 c18) 2 yk_X1_coloursClash wM_X1_62 ⟨wN_X1_coloursClash, wS_X1_coloursClash, wI_X1, wC_X1_coloursClash⟩ ⟨rfl, rfl, Nat.le_of_ble_eq_true rfl, Nat.le_of_ble_eq_true rfl, Nat.le_of_ble_eq_true rfl, Nat.le_of_ble_eq_true rfl⟩ [0, 4] [1, 2, 3, 5, 6] [5, 0, 1, 2, 6, 3, 4] rfl [(hNWk, .inl (cI, 30, .inl NWKa)), (hNWt, .inl (cI, 30, .inl NWTa)), (hNWc, .inl (cI, 24, .inl NWCa)), (hCAo, .inl (cI, 150, .inl CAow)), (hCAp, .inl (cI, 150, .inl CApa))] rfl (by decide) [(hNW, .inr (3, [.int NWru, .int NWco, .ref hNWk, .ref hNWt, .ref hNWm, .ref hNWc])), (hNWk, .inl (cI, 30, .inl NWKa)), (hNWt, .inl (cI, 30, .inl NWTa)), (hNWc, .inl (cI, 24, .inl NWCa)), (hCA, .inr (0, [.ref hNW, .ref hCAo, .ref hCAp])), (hCAo, .inl (cI, 150, .inl CAow)), (hCAp, .inl (cI, 150, .inl CApa))] rfl (by decide) 4 0 rfl rfl rfl rfl rfl (Nat.le_of_ble_eq_true rfl) dX1_wouldClash_80 rfl ?_
                refine j_if_eq (tgt := 88) (pc' := 86) cx dX1_wouldClash_83 (by decide) rfl (fun ch_35 => ?_) (fun ch_35 => ?_)
                · have h_36 := it_t h_35 ch_35
                  refine j_iinc (v := (s7 + 1)) (lv' := [(8, .int (s7 + 1)), (9, .int r9), (0, .ref hCA), (1, .int p0), (2, .int p1), (3, .int p2), (4, .int p3), (5, .int s1), (6, .int r3), (7, .int r5)]) (pc' := 91) cx 9 dX1_wouldClash_88 rfl (kn_1 _) (by decide) rfl rfl ?_
                  refine j_goto (pc' := 33) cx dX1_wouldClash_91 (by decide) ?_
                  have h_37 := so_i h_36
                  subst h_37
                  refine j_lv (lv' := [(0, .ref hCA), (1, .int p0), (2, .int p1), (3, .int p2), (4, .int p3), (5, .int s1), (6, .int r3), (7, .int r5), (8, .int (s7 + 1))]) cx [2, 3, 4, 5, 6, 7, 8, 9, 0] rfl ?_
                  exact ihe8 _ (se_l h_22)
                · have h_38 := it_f h_35 ch_35
                  refine j_iconst (pc' := 87) cx 1 dX1_wouldClash_86 ki_1 rfl ?_
                  have h_39 := so_i h_38
                  subst h_39
                  have h_40 := so_i (se_r h_22)
                  subst h_40
                  have h_41 := se_r h_16
                  have h_42 := so_i h_41
                  subst h_42
                  have h_43 := so_i (se_r h_8)
                  subst h_43
                  have h_44 := se_r h_2
                  have h_45 := so_i h_44
                  subst h_45
                  exact j_ret cx (Or.inr (Or.inl ⟨_, _, rfl, (by decide +kernel), dX1_wouldClash_87, rfl, rfl⟩)) ⟨rfl, rfl⟩
        refine j_lv (lv' := [(0, .ref hCA), (1, .int p0), (2, .int p1), (3, .int p2), (4, .int p3), (5, .int s1), (6, .int r3), (7, .int r5), (8, .int 0)]) cx [3, 4, 5, 6, 7, 8, 2, 1, 0] rfl ?_
        exact LPe8 _ _ h_15
  refine j_lv (lv' := [(0, .ref hCA), (1, .int p0), (2, .int p1), (3, .int p2), (4, .int p3), (5, .int 0)]) cx [1, 2, 3, 4, 5, 0] rfl ?_
  exact LPe2 _ _ h_1
set_option maxHeartbeats 4000000 in
set_option maxRecDepth 100000 in
theorem c_X1_hasClash (l : Launch) (D : va_G) (cI cZ cC cS : ClassId) (hNW hNWk hNWt hNWm hNWc hCA hCAo hCAp : Nat) (NWru : Int32) (NWco : Int32) (NWKa : Nat → Int32) (NWTa : Nat → Int32) (NWMa : Nat → Int32) (NWCa : Nat → Int32) (CAow : Nat → Int32) (CApa : Nat → Int32) (out : Int32) (hm : f_X1_hasClash NWru NWco NWKa NWTa NWMa NWCa CAow CApa = some out) : Ct l yX1_hasClash cX1_hasClash 2 (some .boolean) ({ frames := 3, cells := 0, slots := 0, locals := 75 }) (D, TY cI cZ cC cS) [.ref hCA] [(hNW, .inr (3, [.int NWru, .int NWco, .ref hNWk, .ref hNWt, .ref hNWm, .ref hNWc])), (hNWk, .inl (cI, 30, .inl NWKa)), (hNWt, .inl (cI, 30, .inl NWTa)), (hNWm, .inl (cI, 30, .inl NWMa)), (hNWc, .inl (cI, 24, .inl NWCa)), (hCA, .inr (0, [.ref hNW, .ref hCAo, .ref hCAp])), (hCAo, .inl (cI, 150, .inl CAow)), (hCAp, .inl (cI, 150, .inl CApa))] (jw_P (some (.int out)) [(hNW, .inr (3, [.int NWru, .int NWco, .ref hNWk, .ref hNWt, .ref hNWm, .ref hNWc])), (hNWk, .inl (cI, 30, .inl NWKa)), (hNWt, .inl (cI, 30, .inl NWTa)), (hNWm, .inl (cI, 30, .inl NWMa)), (hNWc, .inl (cI, 24, .inl NWCa)), (hCA, .inr (0, [.ref hNW, .ref hCAo, .ref hCAp])), (hCAo, .inl (cI, 150, .inl CAow)), (hCAp, .inl (cI, 150, .inl CApa))]) 0 0 := by
  refine ct_of RX1 (by decide +kernel) rfl (Nat.le_of_ble_eq_true rfl) (fun j cx => ?_)
  unfold f_X1_hasClash at hm
  show j 0 0 [(hNW, .inr (3, [.int NWru, .int NWco, .ref hNWk, .ref hNWt, .ref hNWm, .ref hNWc])), (hNWk, .inl (cI, 30, .inl NWKa)), (hNWt, .inl (cI, 30, .inl NWTa)), (hNWm, .inl (cI, 30, .inl NWMa)), (hNWc, .inl (cI, 24, .inl NWCa)), (hCA, .inr (0, [.ref hNW, .ref hCAo, .ref hCAp])), (hCAo, .inl (cI, 150, .inl CAow)), (hCAp, .inl (cI, 150, .inl CApa))] [(0, .ref hCA)] 0 []
  refine j_iconst (pc' := 1) cx 0 dX1_hasClash_0 ki_0 rfl ?_
  refine j_istore_n (lv' := [(1, .int 0), (0, .ref hCA)]) (pc' := 2) cx dX1_hasClash_1 (by decide) rfl rfl ?_
  obtain ⟨e2, h_1, h_2⟩ := bd_s hm
  have KXe2 : ∀ e2x, e2 = .inl e2x → j 0 0 [(hNW, .inr (3, [.int NWru, .int NWco, .ref hNWk, .ref hNWt, .ref hNWm, .ref hNWc])), (hNWk, .inl (cI, 30, .inl NWKa)), (hNWt, .inl (cI, 30, .inl NWTa)), (hNWm, .inl (cI, 30, .inl NWMa)), (hNWc, .inl (cI, 24, .inl NWCa)), (hCA, .inr (0, [.ref hNW, .ref hCAo, .ref hCAp])), (hCAo, .inl (cI, 150, .inl CAow)), (hCAp, .inl (cI, 150, .inl CApa))] [] 56 [] := by
    intro e2x ze2
    subst ze2
    have h_3 := se_l h_2
    refine j_iconst (pc' := 57) cx 0 dX1_hasClash_56 ki_0 rfl ?_
    have h_4 := so_i h_3
    subst h_4
    exact j_ret cx (Or.inr (Or.inl ⟨_, _, rfl, (by decide +kernel), dX1_hasClash_57, rfl, rfl⟩)) ⟨rfl, rfl⟩
  have LPe2 : ∀ (n : Nat) (s1 : Int32), lp (f_X1_hasClash_b1 NWru NWco NWKa NWTa NWMa NWCa CAow CApa) n s1 = some e2 → j 0 0 [(hNW, .inr (3, [.int NWru, .int NWco, .ref hNWk, .ref hNWt, .ref hNWm, .ref hNWc])), (hNWk, .inl (cI, 30, .inl NWKa)), (hNWt, .inl (cI, 30, .inl NWTa)), (hNWm, .inl (cI, 30, .inl NWMa)), (hNWc, .inl (cI, 24, .inl NWCa)), (hCA, .inr (0, [.ref hNW, .ref hCAo, .ref hCAp])), (hCAo, .inl (cI, 150, .inl CAow)), (hCAp, .inl (cI, 150, .inl CApa))] [(0, .ref hCA), (1, .int s1)] 2 [] := by
    intro n
    induction n with
    | zero => intro s1 z; exact absurd z (by intro z; cases z)
    | succ n ihe2 =>
      intro s1 h_5
      obtain ⟨q_6, h_7, h_8⟩ := bd_s h_5
      unfold f_X1_hasClash_b1 at h_7
      refine j_iload_n (pc' := 3) cx 1 dX1_hasClash_2 rfl rfl ?_
      refine j_aload_n (pc' := 4) cx 0 dX1_hasClash_3 rfl rfl ?_
      refine j_get (C := RX1) (T := TX1) (N := 3) (pc' := 7) cx uB_X1 5 rfl rfl 0 (by decide) wF_X1_12 (.ref hNW) rfl dX1_hasClash_4 rfl ?_
      refine j_get (C := RX4) (T := TX4) (N := 6) (pc' := 10) cx uB_X4 0 rfl rfl 1 (by decide) wF_X1_28 (.int NWco) rfl dX1_hasClash_7 rfl ?_
      refine j_icmp_ge (tgt := 56) (pc' := 13) cx dX1_hasClash_10 (by decide) rfl (fun ch_7 => ?_) (fun ch_7 => ?_)
      · have h_9 := it_t h_7 ch_7
        have h_10 := so_i h_9
        subst h_10
        have h_11 := so_i (se_r h_8)
        subst h_11
        refine j_lv (lv' := []) cx [] rfl ?_
        exact KXe2 _ rfl
      · have h_12 := it_f h_7 ch_7
        refine j_aload_n (pc' := 14) cx 0 dX1_hasClash_13 rfl rfl ?_
        refine j_aload_n (pc' := 15) cx 0 dX1_hasClash_14 rfl rfl ?_
        refine j_get (C := RX1) (T := TX1) (N := 3) (pc' := 18) cx uB_X1 5 rfl rfl 0 (by decide) wF_X1_12 (.ref hNW) rfl dX1_hasClash_15 rfl ?_
        refine j_get (C := RX4) (T := TX4) (N := 6) (pc' := 21) cx uB_X4 0 rfl rfl 2 (by decide) wF_X1_41 (.ref hNWk) rfl dX1_hasClash_18 rfl ?_
        refine j_iload_n (pc' := 22) cx 1 dX1_hasClash_21 rfl rfl ?_
        obtain ⟨i3, h_13⟩ := ck_s h_12
        refine j_iald (pc' := 23) cx 1 0 rfl rfl i3 dX1_hasClash_22 rfl ?_
        refine j_aload_n (pc' := 24) cx 0 dX1_hasClash_23 rfl rfl ?_
        refine j_get (C := RX1) (T := TX1) (N := 3) (pc' := 27) cx uB_X1 5 rfl rfl 0 (by decide) wF_X1_12 (.ref hNW) rfl dX1_hasClash_24 rfl ?_
        refine j_get (C := RX4) (T := TX4) (N := 6) (pc' := 30) cx uB_X4 0 rfl rfl 3 (by decide) wF_X1_44 (.ref hNWt) rfl dX1_hasClash_27 rfl ?_
        refine j_iload_n (pc' := 31) cx 1 dX1_hasClash_30 rfl rfl ?_
        obtain ⟨i4, h_14⟩ := ck_s h_13
        refine j_iald (pc' := 32) cx 2 0 rfl rfl i4 dX1_hasClash_31 rfl ?_
        refine j_aload_n (pc' := 33) cx 0 dX1_hasClash_32 rfl rfl ?_
        refine j_get (C := RX1) (T := TX1) (N := 3) (pc' := 36) cx uB_X1 5 rfl rfl 0 (by decide) wF_X1_12 (.ref hNW) rfl dX1_hasClash_33 rfl ?_
        refine j_get (C := RX4) (T := TX4) (N := 6) (pc' := 39) cx uB_X4 0 rfl rfl 4 (by decide) wF_X1_32 (.ref hNWm) rfl dX1_hasClash_36 rfl ?_
        refine j_iload_n (pc' := 40) cx 1 dX1_hasClash_39 rfl rfl ?_
        obtain ⟨i5, h_15⟩ := ck_s h_14
        refine j_iald (pc' := 41) cx 3 0 rfl rfl i5 dX1_hasClash_40 rfl ?_
        refine j_iload_n (pc' := 42) cx 1 dX1_hasClash_41 rfl rfl ?_
        obtain ⟨r6, c7, h_16⟩ := bd_s h_15
        refine j_cV (pc' := 45) cx (c_X1_wouldClash l D cI cZ cC cS hNW hNWk hNWt hNWm hNWc hCA hCAo hCAp NWru NWco NWKa NWTa NWCa CAow CApa (NWKa s1.toNatClampNeg) (NWTa s1.toNatClampNeg) (NWMa s1.toNatClampNeg) s1 r6 c7) 4 yk_X1_wouldClash wM_X1_51 ⟨wN_X1_wouldClash, wS_X1_wouldClash, wI_X1, wC_X1_wouldClash⟩ ⟨rfl, rfl, Nat.le_of_ble_eq_true rfl, Nat.le_of_ble_eq_true rfl, Nat.le_of_ble_eq_true rfl, Nat.le_of_ble_eq_true rfl⟩ [0, 1, 2, 4, 5, 6, 7] [3] [1, 2, 3, 0, 4, 5, 6, 7] rfl [(hNWm, .inl (cI, 30, .inl NWMa))] rfl (by decide) [(hNW, .inr (3, [.int NWru, .int NWco, .ref hNWk, .ref hNWt, .ref hNWm, .ref hNWc])), (hNWk, .inl (cI, 30, .inl NWKa)), (hNWt, .inl (cI, 30, .inl NWTa)), (hNWm, .inl (cI, 30, .inl NWMa)), (hNWc, .inl (cI, 24, .inl NWCa)), (hCA, .inr (0, [.ref hNW, .ref hCAo, .ref hCAp])), (hCAo, .inl (cI, 150, .inl CAow)), (hCAp, .inl (cI, 150, .inl CApa))] rfl (by decide) 5 0 rfl rfl rfl rfl rfl (Nat.le_of_ble_eq_true rfl) dX1_hasClash_42 rfl ?_
        refine j_if_eq (tgt := 50) (pc' := 48) cx dX1_hasClash_45 (by decide) rfl (fun ch_16 => ?_) (fun ch_16 => ?_)
        · have h_17 := it_t h_16 ch_16
          refine j_iinc (v := (s1 + 1)) (lv' := [(1, .int (s1 + 1)), (0, .ref hCA)]) (pc' := 53) cx 1 dX1_hasClash_50 rfl (kn_1 _) (by decide) rfl rfl ?_
          refine j_goto (pc' := 2) cx dX1_hasClash_53 (by decide) ?_
          have h_18 := so_i h_17
          subst h_18
          refine j_lv (lv' := [(0, .ref hCA), (1, .int (s1 + 1))]) cx [1, 0] rfl ?_
          exact ihe2 _ (se_l h_8)
        · have h_19 := it_f h_16 ch_16
          refine j_iconst (pc' := 49) cx 1 dX1_hasClash_48 ki_1 rfl ?_
          have h_20 := so_i h_19
          subst h_20
          have h_21 := so_i (se_r h_8)
          subst h_21
          have h_22 := se_r h_2
          have h_23 := so_i h_22
          subst h_23
          exact j_ret cx (Or.inr (Or.inl ⟨_, _, rfl, (by decide +kernel), dX1_hasClash_49, rfl, rfl⟩)) ⟨rfl, rfl⟩
  refine j_lv (lv' := [(0, .ref hCA), (1, .int 0)]) cx [1, 0] rfl ?_
  exact LPe2 _ _ h_1
set_option maxHeartbeats 4000000 in
set_option maxRecDepth 100000 in
theorem c_X1_isFreeFor (l : Launch) (D : va_G) (cI cZ cC cS : ClassId) (hNW hCA hCAo hCAp : Nat) (CAow : Nat → Int32) (p0 : Int32) (p1 : Int32) (out : Int32) (hm : f_X1_isFreeFor CAow p0 p1 = some out) : Ct l yX1_isFreeFor cX1_isFreeFor 3 (some .boolean) ({ frames := 1, cells := 0, slots := 0, locals := 21 }) (D, TY cI cZ cC cS) [.ref hCA, .int p0, .int p1] [(hCA, .inr (0, [.ref hNW, .ref hCAo, .ref hCAp])), (hCAo, .inl (cI, 150, .inl CAow))] (jw_P (some (.int out)) [(hCA, .inr (0, [.ref hNW, .ref hCAo, .ref hCAp])), (hCAo, .inl (cI, 150, .inl CAow))]) 0 0 := by
  refine ct_of RX1 (by decide +kernel) rfl (Nat.le_of_ble_eq_true rfl) (fun j cx => ?_)
  unfold f_X1_isFreeFor at hm
  show j 0 0 [(hCA, .inr (0, [.ref hNW, .ref hCAo, .ref hCAp])), (hCAo, .inl (cI, 150, .inl CAow))] [(0, .ref hCA), (1, .int p0), (2, .int p1)] 0 []
  refine j_aload_n (pc' := 1) cx 0 dX1_isFreeFor_0 rfl rfl ?_
  refine j_iload_n (pc' := 2) cx 2 dX1_isFreeFor_1 rfl rfl ?_
  obtain ⟨r1, c2, h_1⟩ := bd_s hm
  refine j_cV (pc' := 5) cx (c_X1_isFree l D cI cZ cC cS hNW hCA hCAo hCAp CAow p1 r1 c2) 1 yk_X1_isFree wM_X1_86 ⟨wN_X1_isFree, wS_X1_isFree, wI_X1, wC_X1_isFree⟩ ⟨rfl, rfl, Nat.le_of_ble_eq_true rfl, Nat.le_of_ble_eq_true rfl, Nat.le_of_ble_eq_true rfl, Nat.le_of_ble_eq_true rfl⟩ [0, 1] [] [0, 1] rfl [] rfl (by decide) [(hCA, .inr (0, [.ref hNW, .ref hCAo, .ref hCAp])), (hCAo, .inl (cI, 150, .inl CAow))] rfl (by decide) 0 0 rfl rfl rfl rfl rfl (Nat.le_of_ble_eq_true rfl) dX1_isFreeFor_2 rfl ?_
  obtain ⟨t4, h_3, h_2⟩ := bd_s h_1
  have Kt4 : j 0 0 [(hCA, .inr (0, [.ref hNW, .ref hCAo, .ref hCAp])), (hCAo, .inl (cI, 150, .inl CAow))] [] 23 [.int t4] := by
    obtain ⟨b5, h_4⟩ := ckP_s h_2
    have h_5 := so_i h_4
    subst h_5
    exact j_ret cx (Or.inr (Or.inl ⟨_, _, rfl, (nz_n b5), dX1_isFreeFor_23, rfl, rfl⟩)) ⟨rfl, rfl⟩
  refine j_if_ne (tgt := 18) (pc' := 8) cx dX1_isFreeFor_5 (by decide) rfl (fun ch_3 => ?_) (fun ch_3 => ?_)
  · have h_6 := it_f h_3 ch_3
    refine j_iconst (pc' := 19) cx 1 dX1_isFreeFor_18 ki_1 rfl ?_
    refine j_goto (pc' := 23) cx dX1_isFreeFor_19 (by decide) ?_
    have h_7 := so_i h_6
    subst h_7
    refine j_lv (lv' := []) cx [] rfl ?_
    exact Kt4
  · have h_8 := it_t h_3 ch_3
    refine j_aload_n (pc' := 9) cx 0 dX1_isFreeFor_8 rfl rfl ?_
    refine j_get (C := RX1) (T := TX1) (N := 3) (pc' := 12) cx uB_X1 0 rfl rfl 1 (by decide) wF_X1_18 (.ref hCAo) rfl dX1_isFreeFor_9 rfl ?_
    refine j_iload_n (pc' := 13) cx 2 dX1_isFreeFor_12 rfl rfl ?_
    obtain ⟨i3, h_9⟩ := ck_s h_8
    refine j_iald (pc' := 14) cx 1 0 rfl rfl i3 dX1_isFreeFor_13 rfl ?_
    refine j_iload_n (pc' := 15) cx 1 dX1_isFreeFor_14 rfl rfl ?_
    refine j_icmp_ne (tgt := 22) (pc' := 18) cx dX1_isFreeFor_15 (by decide) rfl (fun ch_9 => ?_) (fun ch_9 => ?_)
    · have h_10 := it_f h_9 ch_9
      refine j_iconst (pc' := 23) cx 0 dX1_isFreeFor_22 ki_0 rfl ?_
      have h_11 := so_i h_10
      subst h_11
      refine j_lv (lv' := []) cx [] rfl ?_
      exact Kt4
    · have h_12 := it_t h_9 ch_9
      refine j_iconst (pc' := 19) cx 1 dX1_isFreeFor_18 ki_1 rfl ?_
      refine j_goto (pc' := 23) cx dX1_isFreeFor_19 (by decide) ?_
      have h_13 := so_i h_12
      subst h_13
      refine j_lv (lv' := []) cx [] rfl ?_
      exact Kt4
set_option maxHeartbeats 4000000 in
set_option maxRecDepth 100000 in
theorem c_X1_whyNot (l : Launch) (D : va_G) (cI cZ cC cS : ClassId) (hNW hNWk hNWt hNWm hNWc hCA hCAo hCAp : Nat) (NWru : Int32) (NWco : Int32) (NWKa : Nat → Int32) (NWTa : Nat → Int32) (NWCa : Nat → Int32) (CAow : Nat → Int32) (CApa : Nat → Int32) (p0 : Int32) (p1 : Int32) (p2 : Int32) (p3 : Int32) (out : Int32) (hm : f_X1_whyNot NWru NWco NWKa NWTa NWCa CAow CApa p0 p1 p2 p3 = some out) : Ct l yX1_whyNot cX1_whyNot 6 (some .int) ({ frames := 3, cells := 0, slots := 0, locals := 75 }) (D, TY cI cZ cC cS) [.ref hCA, .int p0, .int p1, .int p2, .int p3] [(hNW, .inr (3, [.int NWru, .int NWco, .ref hNWk, .ref hNWt, .ref hNWm, .ref hNWc])), (hNWk, .inl (cI, 30, .inl NWKa)), (hNWt, .inl (cI, 30, .inl NWTa)), (hNWc, .inl (cI, 24, .inl NWCa)), (hCA, .inr (0, [.ref hNW, .ref hCAo, .ref hCAp])), (hCAo, .inl (cI, 150, .inl CAow)), (hCAp, .inl (cI, 150, .inl CApa))] (jw_P (some (.int out)) [(hNW, .inr (3, [.int NWru, .int NWco, .ref hNWk, .ref hNWt, .ref hNWm, .ref hNWc])), (hNWk, .inl (cI, 30, .inl NWKa)), (hNWt, .inl (cI, 30, .inl NWTa)), (hNWc, .inl (cI, 24, .inl NWCa)), (hCA, .inr (0, [.ref hNW, .ref hCAo, .ref hCAp])), (hCAo, .inl (cI, 150, .inl CAow)), (hCAp, .inl (cI, 150, .inl CApa))]) 0 0 := by
  refine ct_of RX1 (by decide +kernel) rfl (Nat.le_of_ble_eq_true rfl) (fun j cx => ?_)
  unfold f_X1_whyNot at hm
  show j 0 0 [(hNW, .inr (3, [.int NWru, .int NWco, .ref hNWk, .ref hNWt, .ref hNWm, .ref hNWc])), (hNWk, .inl (cI, 30, .inl NWKa)), (hNWt, .inl (cI, 30, .inl NWTa)), (hNWc, .inl (cI, 24, .inl NWCa)), (hCA, .inr (0, [.ref hNW, .ref hCAo, .ref hCAp])), (hCAo, .inl (cI, 150, .inl CAow)), (hCAp, .inl (cI, 150, .inl CApa))] [(0, .ref hCA), (1, .int p0), (2, .int p1), (3, .int p2), (4, .int p3)] 0 []
  refine j_aload_n (pc' := 1) cx 0 dX1_whyNot_0 rfl rfl ?_
  refine j_iload (pc' := 3) cx 4 dX1_whyNot_1 rfl rfl ?_
  refine j_iload_n (pc' := 4) cx 3 dX1_whyNot_3 rfl rfl ?_
  obtain ⟨r1, c2, h_1⟩ := bd_s hm
  refine j_cV (pc' := 7) cx (c_X1_isFreeFor l D cI cZ cC cS hNW hCA hCAo hCAp CAow p3 p2 r1 c2) 2 yk_X1_isFreeFor wM_X1_65 ⟨wN_X1_isFreeFor, wS_X1_isFreeFor, wI_X1, wC_X1_isFreeFor⟩ ⟨rfl, rfl, Nat.le_of_ble_eq_true rfl, Nat.le_of_ble_eq_true rfl, Nat.le_of_ble_eq_true rfl, Nat.le_of_ble_eq_true rfl⟩ [4, 5] [0, 1, 2, 3, 6] [0, 1, 2, 3, 5, 6, 4] rfl [(hNW, .inr (3, [.int NWru, .int NWco, .ref hNWk, .ref hNWt, .ref hNWm, .ref hNWc])), (hNWk, .inl (cI, 30, .inl NWKa)), (hNWt, .inl (cI, 30, .inl NWTa)), (hNWc, .inl (cI, 24, .inl NWCa)), (hCAp, .inl (cI, 150, .inl CApa))] rfl (by decide) [(hNW, .inr (3, [.int NWru, .int NWco, .ref hNWk, .ref hNWt, .ref hNWm, .ref hNWc])), (hNWk, .inl (cI, 30, .inl NWKa)), (hNWt, .inl (cI, 30, .inl NWTa)), (hNWc, .inl (cI, 24, .inl NWCa)), (hCA, .inr (0, [.ref hNW, .ref hCAo, .ref hCAp])), (hCAo, .inl (cI, 150, .inl CAow)), (hCAp, .inl (cI, 150, .inl CApa))] rfl (by decide) 4 0 rfl rfl rfl rfl rfl (Nat.le_of_ble_eq_true rfl) dX1_whyNot_4 rfl ?_
  refine j_if_ne (tgt := 12) (pc' := 10) cx dX1_whyNot_7 (by decide) rfl (fun ch_1 => ?_) (fun ch_1 => ?_)
  · have h_2 := it_f h_1 ch_1
    refine j_iconst (pc' := 13) cx 0 dX1_whyNot_12 ki_0 rfl ?_
    refine j_istore (lv' := [(5, .int 0), (0, .ref hCA), (1, .int p0), (2, .int p1), (3, .int p2), (4, .int p3)]) (pc' := 15) cx dX1_whyNot_13 (by decide) rfl rfl ?_
    obtain ⟨e4, h_3, h_4⟩ := bd_s h_2
    have KXe4 : ∀ e4x, e4 = .inl e4x → j 0 0 [(hNW, .inr (3, [.int NWru, .int NWco, .ref hNWk, .ref hNWt, .ref hNWm, .ref hNWc])), (hNWk, .inl (cI, 30, .inl NWKa)), (hNWt, .inl (cI, 30, .inl NWTa)), (hNWc, .inl (cI, 24, .inl NWCa)), (hCA, .inr (0, [.ref hNW, .ref hCAo, .ref hCAp])), (hCAo, .inl (cI, 150, .inl CAow)), (hCAp, .inl (cI, 150, .inl CApa))] [(0, .ref hCA), (1, .int p0), (2, .int p1), (3, .int p2), (4, .int p3)] 44 [] := by
      intro e4x ze4
      subst ze4
      have h_5 := se_l h_4
      refine j_aload_n (pc' := 45) cx 0 dX1_whyNot_44 rfl rfl ?_
      refine j_iload_n (pc' := 46) cx 1 dX1_whyNot_45 rfl rfl ?_
      refine j_iload_n (pc' := 47) cx 2 dX1_whyNot_46 rfl rfl ?_
      refine j_iload_n (pc' := 48) cx 3 dX1_whyNot_47 rfl rfl ?_
      refine j_iload (pc' := 50) cx 4 dX1_whyNot_48 rfl rfl ?_
      obtain ⟨r9, c10, h_6⟩ := bd_s h_5
      refine j_cV (pc' := 53) cx (c_X1_wouldClash l D cI cZ cC cS hNW hNWk hNWt hNWm hNWc hCA hCAo hCAp NWru NWco NWKa NWTa NWCa CAow CApa p0 p1 p2 p3 r9 c10) 4 yk_X1_wouldClash wM_X1_51 ⟨wN_X1_wouldClash, wS_X1_wouldClash, wI_X1, wC_X1_wouldClash⟩ ⟨rfl, rfl, Nat.le_of_ble_eq_true rfl, Nat.le_of_ble_eq_true rfl, Nat.le_of_ble_eq_true rfl, Nat.le_of_ble_eq_true rfl⟩ [0, 1, 2, 3, 4, 5, 6] [] [0, 1, 2, 3, 4, 5, 6] rfl [] rfl (by decide) [(hNW, .inr (3, [.int NWru, .int NWco, .ref hNWk, .ref hNWt, .ref hNWm, .ref hNWc])), (hNWk, .inl (cI, 30, .inl NWKa)), (hNWt, .inl (cI, 30, .inl NWTa)), (hNWc, .inl (cI, 24, .inl NWCa)), (hCA, .inr (0, [.ref hNW, .ref hCAo, .ref hCAp])), (hCAo, .inl (cI, 150, .inl CAow)), (hCAp, .inl (cI, 150, .inl CApa))] rfl (by decide) 4 0 rfl rfl rfl rfl rfl (Nat.le_of_ble_eq_true rfl) dX1_whyNot_50 rfl ?_
      refine j_if_eq (tgt := 58) (pc' := 56) cx dX1_whyNot_53 (by decide) rfl (fun ch_6 => ?_) (fun ch_6 => ?_)
      · have h_7 := it_t h_6 ch_6
        refine j_iload (pc' := 60) cx 4 dX1_whyNot_58 rfl rfl ?_
        refine j_iconst (pc' := 61) cx (-1) dX1_whyNot_60 ki_m1 rfl ?_
        obtain ⟨t11, h_9, h_8⟩ := bd_s h_7
        have Kt11 : j 0 0 [(hNW, .inr (3, [.int NWru, .int NWco, .ref hNWk, .ref hNWt, .ref hNWm, .ref hNWc])), (hNWk, .inl (cI, 30, .inl NWKa)), (hNWt, .inl (cI, 30, .inl NWTa)), (hNWc, .inl (cI, 24, .inl NWCa)), (hCA, .inr (0, [.ref hNW, .ref hCAo, .ref hCAp])), (hCAo, .inl (cI, 150, .inl CAow)), (hCAp, .inl (cI, 150, .inl CApa))] [] 81 [.int t11] := by
          have h_10 := so_i h_8
          subst h_10
          exact j_ret cx (Or.inr (Or.inl ⟨_, _, rfl, rfl, dX1_whyNot_81, rfl, rfl⟩)) ⟨rfl, rfl⟩
        refine j_icmp_ne (tgt := 80) (pc' := 64) cx dX1_whyNot_61 (by decide) rfl (fun ch_9 => ?_) (fun ch_9 => ?_)
        · have h_11 := it_f h_9 ch_9
          refine j_iconst (pc' := 81) cx 0 dX1_whyNot_80 ki_0 rfl ?_
          have h_12 := so_i h_11
          subst h_12
          refine j_lv (lv' := []) cx [] rfl ?_
          exact Kt11
        · have h_13 := it_t h_9 ch_9
          refine j_aload_n (pc' := 65) cx 0 dX1_whyNot_64 rfl rfl ?_
          refine j_get (C := RX1) (T := TX1) (N := 3) (pc' := 68) cx uB_X1 4 rfl rfl 0 (by decide) wF_X1_12 (.ref hNW) rfl dX1_whyNot_65 rfl ?_
          refine j_get (C := RX4) (T := TX4) (N := 6) (pc' := 71) cx uB_X4 0 rfl rfl 1 (by decide) wF_X1_28 (.int NWco) rfl dX1_whyNot_68 rfl ?_
          refine j_bipush (pc' := 73) cx 30 dX1_whyNot_71 kb_30 rfl ?_
          refine j_icmp_lt (tgt := 80) (pc' := 76) cx dX1_whyNot_73 (by decide) rfl (fun ch_13 => ?_) (fun ch_13 => ?_)
          · have h_14 := it_t h_13 ch_13
            refine j_iconst (pc' := 81) cx 0 dX1_whyNot_80 ki_0 rfl ?_
            have h_15 := so_i h_14
            subst h_15
            refine j_lv (lv' := []) cx [] rfl ?_
            exact Kt11
          · have h_16 := it_f h_13 ch_13
            refine j_iconst (pc' := 77) cx 4 dX1_whyNot_76 ki_4 rfl ?_
            refine j_goto (pc' := 81) cx dX1_whyNot_77 (by decide) ?_
            have h_17 := so_i h_16
            subst h_17
            refine j_lv (lv' := []) cx [] rfl ?_
            exact Kt11
      · have h_18 := it_f h_6 ch_6
        refine j_iconst (pc' := 57) cx 3 dX1_whyNot_56 ki_3 rfl ?_
        have h_19 := so_i h_18
        subst h_19
        exact j_ret cx (Or.inr (Or.inl ⟨_, _, rfl, rfl, dX1_whyNot_57, rfl, rfl⟩)) ⟨rfl, rfl⟩
    have LPe4 : ∀ (n : Nat) (s3 : Int32), lp (f_X1_whyNot_b1 CAow p2 p3) n s3 = some e4 → j 0 0 [(hNW, .inr (3, [.int NWru, .int NWco, .ref hNWk, .ref hNWt, .ref hNWm, .ref hNWc])), (hNWk, .inl (cI, 30, .inl NWKa)), (hNWt, .inl (cI, 30, .inl NWTa)), (hNWc, .inl (cI, 24, .inl NWCa)), (hCA, .inr (0, [.ref hNW, .ref hCAo, .ref hCAp])), (hCAo, .inl (cI, 150, .inl CAow)), (hCAp, .inl (cI, 150, .inl CApa))] [(0, .ref hCA), (1, .int p0), (2, .int p1), (3, .int p2), (4, .int p3), (5, .int s3)] 15 [] := by
      intro n
      induction n with
      | zero => intro s3 z; exact absurd z (by intro z; cases z)
      | succ n ihe4 =>
        intro s3 h_20
        obtain ⟨q_21, h_22, h_23⟩ := bd_s h_20
        unfold f_X1_whyNot_b1 at h_22
        refine j_iload (pc' := 17) cx 5 dX1_whyNot_15 rfl rfl ?_
        refine j_iconst (pc' := 18) cx 4 dX1_whyNot_17 ki_4 rfl ?_
        refine j_icmp_ge (tgt := 44) (pc' := 21) cx dX1_whyNot_18 (by decide) rfl (fun ch_22 => ?_) (fun ch_22 => ?_)
        · have h_24 := it_t h_22 ch_22
          have h_25 := so_i h_24
          subst h_25
          have h_26 := so_i (se_r h_23)
          subst h_26
          refine j_lv (lv' := [(0, .ref hCA), (1, .int p0), (2, .int p1), (3, .int p2), (4, .int p3)]) cx [0, 1, 2, 3, 4] rfl ?_
          exact KXe4 _ rfl
        · have h_27 := it_f h_22 ch_22
          refine j_aload_n (pc' := 22) cx 0 dX1_whyNot_21 rfl rfl ?_
          refine j_iload (pc' := 24) cx 4 dX1_whyNot_22 rfl rfl ?_
          refine j_iload_n (pc' := 25) cx 3 dX1_whyNot_24 rfl rfl ?_
          refine j_iload (pc' := 27) cx 5 dX1_whyNot_25 rfl rfl ?_
          obtain ⟨r5, c6, h_28⟩ := bd_s h_27
          refine j_cS (pc' := 30) cx (c_X0_beside l D cI cZ cC cS p2 s3 r5 c6) 2 yk_X0_beside wM_X1_35 ⟨wT_X0_beside, wI_X0, wC_X0_beside⟩ ⟨rfl, rfl, Nat.le_of_ble_eq_true rfl, Nat.le_of_ble_eq_true rfl, Nat.le_of_ble_eq_true rfl, Nat.le_of_ble_eq_true rfl⟩ [] [0, 1, 2, 3, 4, 5, 6] [0, 1, 2, 3, 4, 5, 6] rfl [(hNW, .inr (3, [.int NWru, .int NWco, .ref hNWk, .ref hNWt, .ref hNWm, .ref hNWc])), (hNWk, .inl (cI, 30, .inl NWKa)), (hNWt, .inl (cI, 30, .inl NWTa)), (hNWc, .inl (cI, 24, .inl NWCa)), (hCA, .inr (0, [.ref hNW, .ref hCAo, .ref hCAp])), (hCAo, .inl (cI, 150, .inl CAow)), (hCAp, .inl (cI, 150, .inl CApa))] rfl (by decide) [(hNW, .inr (3, [.int NWru, .int NWco, .ref hNWk, .ref hNWt, .ref hNWm, .ref hNWc])), (hNWk, .inl (cI, 30, .inl NWKa)), (hNWt, .inl (cI, 30, .inl NWTa)), (hNWc, .inl (cI, 24, .inl NWCa)), (hCA, .inr (0, [.ref hNW, .ref hCAo, .ref hCAp])), (hCAo, .inl (cI, 150, .inl CAow)), (hCAp, .inl (cI, 150, .inl CApa))] rfl (by decide) rfl rfl (Nat.le_of_ble_eq_true rfl) dX1_whyNot_27 rfl ?_
          obtain ⟨r7, c8, h_29⟩ := bd_s h_28
          refine j_cV (pc' := 33) cx (c_X1_isFreeFor l D cI cZ cC cS hNW hCA hCAo hCAp CAow p3 r5 r7 c8) 2 yk_X1_isFreeFor wM_X1_65 ⟨wN_X1_isFreeFor, wS_X1_isFreeFor, wI_X1, wC_X1_isFreeFor⟩ ⟨rfl, rfl, Nat.le_of_ble_eq_true rfl, Nat.le_of_ble_eq_true rfl, Nat.le_of_ble_eq_true rfl, Nat.le_of_ble_eq_true rfl⟩ [4, 5] [0, 1, 2, 3, 6] [0, 1, 2, 3, 5, 6, 4] rfl [(hNW, .inr (3, [.int NWru, .int NWco, .ref hNWk, .ref hNWt, .ref hNWm, .ref hNWc])), (hNWk, .inl (cI, 30, .inl NWKa)), (hNWt, .inl (cI, 30, .inl NWTa)), (hNWc, .inl (cI, 24, .inl NWCa)), (hCAp, .inl (cI, 150, .inl CApa))] rfl (by decide) [(hNW, .inr (3, [.int NWru, .int NWco, .ref hNWk, .ref hNWt, .ref hNWm, .ref hNWc])), (hNWk, .inl (cI, 30, .inl NWKa)), (hNWt, .inl (cI, 30, .inl NWTa)), (hNWc, .inl (cI, 24, .inl NWCa)), (hCA, .inr (0, [.ref hNW, .ref hCAo, .ref hCAp])), (hCAo, .inl (cI, 150, .inl CAow)), (hCAp, .inl (cI, 150, .inl CApa))] rfl (by decide) 4 0 rfl rfl rfl rfl rfl (Nat.le_of_ble_eq_true rfl) dX1_whyNot_30 rfl ?_
          refine j_if_ne (tgt := 38) (pc' := 36) cx dX1_whyNot_33 (by decide) rfl (fun ch_29 => ?_) (fun ch_29 => ?_)
          · have h_30 := it_f h_29 ch_29
            refine j_iinc (v := (s3 + 1)) (lv' := [(5, .int (s3 + 1)), (0, .ref hCA), (1, .int p0), (2, .int p1), (3, .int p2), (4, .int p3)]) (pc' := 41) cx 5 dX1_whyNot_38 rfl (kn_1 _) (by decide) rfl rfl ?_
            refine j_goto (pc' := 15) cx dX1_whyNot_41 (by decide) ?_
            have h_31 := so_i h_30
            subst h_31
            refine j_lv (lv' := [(0, .ref hCA), (1, .int p0), (2, .int p1), (3, .int p2), (4, .int p3), (5, .int (s3 + 1))]) cx [1, 2, 3, 4, 5, 0] rfl ?_
            exact ihe4 _ (se_l h_23)
          · have h_32 := it_t h_29 ch_29
            refine j_iconst (pc' := 37) cx 2 dX1_whyNot_36 ki_2 rfl ?_
            have h_33 := so_i h_32
            subst h_33
            have h_34 := so_i (se_r h_23)
            subst h_34
            have h_35 := se_r h_4
            have h_36 := so_i h_35
            subst h_36
            exact j_ret cx (Or.inr (Or.inl ⟨_, _, rfl, rfl, dX1_whyNot_37, rfl, rfl⟩)) ⟨rfl, rfl⟩
    refine j_lv (lv' := [(0, .ref hCA), (1, .int p0), (2, .int p1), (3, .int p2), (4, .int p3), (5, .int 0)]) cx [1, 2, 3, 4, 5, 0] rfl ?_
    exact LPe4 _ _ h_3
  · have h_37 := it_t h_1 ch_1
    refine j_iconst (pc' := 11) cx 1 dX1_whyNot_10 ki_1 rfl ?_
    have h_38 := so_i h_37
    subst h_38
    exact j_ret cx (Or.inr (Or.inl ⟨_, _, rfl, rfl, dX1_whyNot_11, rfl, rfl⟩)) ⟨rfl, rfl⟩
set_option maxHeartbeats 4000000 in
set_option maxRecDepth 100000 in
theorem c_X1_layCross (l : Launch) (D : va_G) (cI cZ cC cS : ClassId) (hNW hNWk hNWt hNWm hNWc hCA hCAo hCAp : Nat) (NWru : Int32) (NWco : Int32) (NWKa : Nat → Int32) (NWTa : Nat → Int32) (NWMa : Nat → Int32) (NWCa : Nat → Int32) (CAow : Nat → Int32) (CApa : Nat → Int32) (p0 : Int32) (p1 : Int32) (p2 : Int32) (out : Int32 × Int32 × (Nat → Int32) × (Nat → Int32) × (Nat → Int32) × (Nat → Int32) × (Nat → Int32)) (hm : f_X1_layCross NWru NWco NWKa NWTa NWMa NWCa CAow CApa p0 p1 p2 = some out) : Ct l yX1_layCross cX1_layCross 6 (some .int) ({ frames := 4, cells := 0, slots := 0, locals := 100 }) (D, TY cI cZ cC cS) [.ref hCA, .int p0, .int p1, .int p2] [(hNW, .inr (3, [.int NWru, .int NWco, .ref hNWk, .ref hNWt, .ref hNWm, .ref hNWc])), (hNWk, .inl (cI, 30, .inl NWKa)), (hNWt, .inl (cI, 30, .inl NWTa)), (hNWm, .inl (cI, 30, .inl NWMa)), (hNWc, .inl (cI, 24, .inl NWCa)), (hCA, .inr (0, [.ref hNW, .ref hCAo, .ref hCAp])), (hCAo, .inl (cI, 150, .inl CAow)), (hCAp, .inl (cI, 150, .inl CApa))] (jw_P (some (.int out.1)) [(hNW, .inr (3, [.int NWru, .int out.2.1, .ref hNWk, .ref hNWt, .ref hNWm, .ref hNWc])), (hNWk, .inl (cI, 30, .inl out.2.2.1)), (hNWt, .inl (cI, 30, .inl out.2.2.2.1)), (hNWm, .inl (cI, 30, .inl out.2.2.2.2.1)), (hNWc, .inl (cI, 24, .inl NWCa)), (hCA, .inr (0, [.ref hNW, .ref hCAo, .ref hCAp])), (hCAo, .inl (cI, 150, .inl out.2.2.2.2.2.1)), (hCAp, .inl (cI, 150, .inl out.2.2.2.2.2.2))]) 0 0 := by
  refine ct_of RX1 (by decide +kernel) rfl (Nat.le_of_ble_eq_true rfl) (fun j cx => ?_)
  unfold f_X1_layCross at hm
  show j 0 0 [(hNW, .inr (3, [.int NWru, .int NWco, .ref hNWk, .ref hNWt, .ref hNWm, .ref hNWc])), (hNWk, .inl (cI, 30, .inl NWKa)), (hNWt, .inl (cI, 30, .inl NWTa)), (hNWm, .inl (cI, 30, .inl NWMa)), (hNWc, .inl (cI, 24, .inl NWCa)), (hCA, .inr (0, [.ref hNW, .ref hCAo, .ref hCAp])), (hCAo, .inl (cI, 150, .inl CAow)), (hCAp, .inl (cI, 150, .inl CApa))] [(0, .ref hCA), (1, .int p0), (2, .int p1), (3, .int p2)] 0 []
  refine j_aload_n (pc' := 1) cx 0 dX1_layCross_0 rfl rfl ?_
  refine j_iload_n (pc' := 2) cx 1 dX1_layCross_1 rfl rfl ?_
  refine j_iload_n (pc' := 3) cx 2 dX1_layCross_2 rfl rfl ?_
  refine j_iload_n (pc' := 4) cx 3 dX1_layCross_3 rfl rfl ?_
  refine j_iconst (pc' := 5) cx (-1) dX1_layCross_4 ki_m1 rfl ?_
  obtain ⟨r1, c2, h_1⟩ := bd_s hm
  refine j_cV (pc' := 8) cx (c_X1_whyNot l D cI cZ cC cS hNW hNWk hNWt hNWm hNWc hCA hCAo hCAp NWru NWco NWKa NWTa NWCa CAow CApa p0 p1 p2 (-1) r1 c2) 4 yk_X1_whyNot wM_X1_68 ⟨wN_X1_whyNot, wS_X1_whyNot, wI_X1, wC_X1_whyNot⟩ ⟨rfl, rfl, Nat.le_of_ble_eq_true rfl, Nat.le_of_ble_eq_true rfl, Nat.le_of_ble_eq_true rfl, Nat.le_of_ble_eq_true rfl⟩ [0, 1, 2, 4, 5, 6, 7] [3] [1, 2, 3, 0, 4, 5, 6, 7] rfl [(hNWm, .inl (cI, 30, .inl NWMa))] rfl (by decide) [(hNW, .inr (3, [.int NWru, .int NWco, .ref hNWk, .ref hNWt, .ref hNWm, .ref hNWc])), (hNWk, .inl (cI, 30, .inl NWKa)), (hNWt, .inl (cI, 30, .inl NWTa)), (hNWm, .inl (cI, 30, .inl NWMa)), (hNWc, .inl (cI, 24, .inl NWCa)), (hCA, .inr (0, [.ref hNW, .ref hCAo, .ref hCAp])), (hCAo, .inl (cI, 150, .inl CAow)), (hCAp, .inl (cI, 150, .inl CApa))] rfl (by decide) 5 0 rfl rfl rfl rfl rfl (Nat.le_of_ble_eq_true rfl) dX1_layCross_5 rfl ?_
  refine j_istore (lv' := [(4, .int r1), (0, .ref hCA), (1, .int p0), (2, .int p1), (3, .int p2)]) (pc' := 10) cx dX1_layCross_8 (by decide) rfl rfl ?_
  refine j_iload (pc' := 12) cx 0 dX1_layCross_10 rfl rfl ?_
  refine j_if_eq (tgt := 29) (pc' := 15) cx dX1_layCross_12 (by decide) rfl (fun ch_1 => ?_) (fun ch_1 => ?_)
  · have h_2 := it_t h_1 ch_1
    refine j_aload_n (pc' := 30) cx 1 dX1_layCross_29 rfl rfl ?_
    refine j_get (C := RX1) (T := TX1) (N := 3) (pc' := 33) cx uB_X1 5 rfl rfl 0 (by decide) wF_X1_12 (.ref hNW) rfl dX1_layCross_30 rfl ?_
    refine j_get (C := RX4) (T := TX4) (N := 6) (pc' := 36) cx uB_X4 0 rfl rfl 1 (by decide) wF_X1_28 (.int NWco) rfl dX1_layCross_33 rfl ?_
    refine j_istore (lv' := [(5, .int NWco), (4, .int r1), (0, .ref hCA), (1, .int p0), (2, .int p1), (3, .int p2)]) (pc' := 38) cx dX1_layCross_36 (by decide) rfl rfl ?_
    refine j_aload_n (pc' := 39) cx 2 dX1_layCross_38 rfl rfl ?_
    refine j_get (C := RX1) (T := TX1) (N := 3) (pc' := 42) cx uB_X1 5 rfl rfl 0 (by decide) wF_X1_12 (.ref hNW) rfl dX1_layCross_39 rfl ?_
    refine j_get (C := RX4) (T := TX4) (N := 6) (pc' := 45) cx uB_X4 0 rfl rfl 2 (by decide) wF_X1_41 (.ref hNWk) rfl dX1_layCross_42 rfl ?_
    refine j_iload (pc' := 47) cx 0 dX1_layCross_45 rfl rfl ?_
    refine j_iload_n (pc' := 48) cx 3 dX1_layCross_47 rfl rfl ?_
    obtain ⟨i3, h_3⟩ := ck_s h_2
    refine j_iast (ws' := [(hNW, .inr (3, [.int NWru, .int NWco, .ref hNWk, .ref hNWt, .ref hNWm, .ref hNWc])), (hNWk, .inl (cI, 30, .inl (upd NWKa NWco.toNatClampNeg p0))), (hNWt, .inl (cI, 30, .inl NWTa)), (hNWm, .inl (cI, 30, .inl NWMa)), (hNWc, .inl (cI, 24, .inl NWCa)), (hCA, .inr (0, [.ref hNW, .ref hCAo, .ref hCAp])), (hCAo, .inl (cI, 150, .inl CAow)), (hCAp, .inl (cI, 150, .inl CApa))]) (pc' := 49) cx 1 0 rfl rfl i3 rfl dX1_layCross_48 rfl ?_
    refine j_aload_n (pc' := 50) cx 2 dX1_layCross_49 rfl rfl ?_
    refine j_get (C := RX1) (T := TX1) (N := 3) (pc' := 53) cx uB_X1 5 rfl rfl 0 (by decide) wF_X1_12 (.ref hNW) rfl dX1_layCross_50 rfl ?_
    refine j_get (C := RX4) (T := TX4) (N := 6) (pc' := 56) cx uB_X4 0 rfl rfl 3 (by decide) wF_X1_44 (.ref hNWt) rfl dX1_layCross_53 rfl ?_
    refine j_iload (pc' := 58) cx 0 dX1_layCross_56 rfl rfl ?_
    refine j_iload_n (pc' := 59) cx 4 dX1_layCross_58 rfl rfl ?_
    obtain ⟨i4, h_4⟩ := ck_s h_3
    refine j_iast (ws' := [(hNW, .inr (3, [.int NWru, .int NWco, .ref hNWk, .ref hNWt, .ref hNWm, .ref hNWc])), (hNWk, .inl (cI, 30, .inl (upd NWKa NWco.toNatClampNeg p0))), (hNWt, .inl (cI, 30, .inl (upd NWTa NWco.toNatClampNeg p1))), (hNWm, .inl (cI, 30, .inl NWMa)), (hNWc, .inl (cI, 24, .inl NWCa)), (hCA, .inr (0, [.ref hNW, .ref hCAo, .ref hCAp])), (hCAo, .inl (cI, 150, .inl CAow)), (hCAp, .inl (cI, 150, .inl CApa))]) (pc' := 60) cx 2 0 rfl rfl i4 rfl dX1_layCross_59 rfl ?_
    refine j_aload_n (pc' := 61) cx 2 dX1_layCross_60 rfl rfl ?_
    refine j_get (C := RX1) (T := TX1) (N := 3) (pc' := 64) cx uB_X1 5 rfl rfl 0 (by decide) wF_X1_12 (.ref hNW) rfl dX1_layCross_61 rfl ?_
    refine j_get (C := RX4) (T := TX4) (N := 6) (pc' := 67) cx uB_X4 0 rfl rfl 4 (by decide) wF_X1_32 (.ref hNWm) rfl dX1_layCross_64 rfl ?_
    refine j_iload (pc' := 69) cx 0 dX1_layCross_67 rfl rfl ?_
    refine j_iload_n (pc' := 70) cx 5 dX1_layCross_69 rfl rfl ?_
    obtain ⟨i5, h_5⟩ := ck_s h_4
    refine j_iast (ws' := [(hNW, .inr (3, [.int NWru, .int NWco, .ref hNWk, .ref hNWt, .ref hNWm, .ref hNWc])), (hNWk, .inl (cI, 30, .inl (upd NWKa NWco.toNatClampNeg p0))), (hNWt, .inl (cI, 30, .inl (upd NWTa NWco.toNatClampNeg p1))), (hNWm, .inl (cI, 30, .inl (upd NWMa NWco.toNatClampNeg p2))), (hNWc, .inl (cI, 24, .inl NWCa)), (hCA, .inr (0, [.ref hNW, .ref hCAo, .ref hCAp])), (hCAo, .inl (cI, 150, .inl CAow)), (hCAp, .inl (cI, 150, .inl CApa))]) (pc' := 71) cx 3 0 rfl rfl i5 rfl dX1_layCross_70 rfl ?_
    refine j_aload_n (pc' := 72) cx 2 dX1_layCross_71 rfl rfl ?_
    refine j_get (C := RX1) (T := TX1) (N := 3) (pc' := 75) cx uB_X1 5 rfl rfl 0 (by decide) wF_X1_12 (.ref hNW) rfl dX1_layCross_72 rfl ?_
    refine j_dup (pc' := 76) cx dX1_layCross_75 rfl rfl ?_
    refine j_get (C := RX4) (T := TX4) (N := 6) (pc' := 79) cx uB_X4 0 rfl rfl 1 (by decide) wF_X1_28 (.int NWco) rfl dX1_layCross_76 rfl ?_
    refine j_iconst (pc' := 80) cx 1 dX1_layCross_79 ki_1 rfl ?_
    refine j_iadd (pc' := 81) cx dX1_layCross_80 rfl ?_
    refine j_put (C := RX4) (T := TX4) (N := 6) (ws' := [(hNW, .inr (3, [.int NWru, .int (NWco + 1), .ref hNWk, .ref hNWt, .ref hNWm, .ref hNWc])), (hNWk, .inl (cI, 30, .inl (upd NWKa NWco.toNatClampNeg p0))), (hNWt, .inl (cI, 30, .inl (upd NWTa NWco.toNatClampNeg p1))), (hNWm, .inl (cI, 30, .inl (upd NWMa NWco.toNatClampNeg p2))), (hNWc, .inl (cI, 24, .inl NWCa)), (hCA, .inr (0, [.ref hNW, .ref hCAo, .ref hCAp])), (hCAo, .inl (cI, 150, .inl CAow)), (hCAp, .inl (cI, 150, .inl CApa))]) (pc' := 84) cx uB_X4 tyX4 tyX4_ok nmX4 0 rfl rfl 1 (by decide) wF_X1_28 rfl rfl rfl (Nat.le_of_ble_eq_true rfl) rfl dX1_layCross_81 rfl ?_
    refine j_aload_n (pc' := 85) cx 2 dX1_layCross_84 rfl rfl ?_
    obtain ⟨r6, c7, h_6⟩ := bd_s h_5
    refine j_cV (pc' := 88) cx (c_X1_layOut l D cI cZ cC cS hNW hNWk hNWt hNWm hNWc hCA hCAo hCAp NWru (NWco + 1) (upd NWMa NWco.toNatClampNeg p2) CAow CApa r6 c7) 0 yk_X1_layOut wM_X1_25 ⟨wN_X1_layOut, wS_X1_layOut, wI_X1, wC_X1_layOut⟩ ⟨rfl, rfl, Nat.le_of_ble_eq_true rfl, Nat.le_of_ble_eq_true rfl, Nat.le_of_ble_eq_true rfl, Nat.le_of_ble_eq_true rfl⟩ [0, 3, 5, 6, 7] [1, 2, 4] [3, 0, 1, 4, 2, 5, 6, 7] rfl [(hNWk, .inl (cI, 30, .inl (upd NWKa NWco.toNatClampNeg p0))), (hNWt, .inl (cI, 30, .inl (upd NWTa NWco.toNatClampNeg p1))), (hNWc, .inl (cI, 24, .inl NWCa))] rfl (by decide) [(hNW, .inr (3, [.int NWru, .int (NWco + 1), .ref hNWk, .ref hNWt, .ref hNWm, .ref hNWc])), (hNWk, .inl (cI, 30, .inl (upd NWKa NWco.toNatClampNeg p0))), (hNWt, .inl (cI, 30, .inl (upd NWTa NWco.toNatClampNeg p1))), (hNWm, .inl (cI, 30, .inl (upd NWMa NWco.toNatClampNeg p2))), (hNWc, .inl (cI, 24, .inl NWCa)), (hCA, .inr (0, [.ref hNW, .ref hCAo, .ref hCAp])), (hCAo, .inl (cI, 150, .inl r6.1)), (hCAp, .inl (cI, 150, .inl r6.2))] rfl (by decide) 5 0 rfl rfl rfl rfl rfl (Nat.le_of_ble_eq_true rfl) dX1_layCross_85 rfl ?_
    refine j_iload (pc' := 90) cx 0 dX1_layCross_88 rfl rfl ?_
    have h_7 := so_i h_6
    subst h_7
    exact j_ret cx (Or.inr (Or.inl ⟨_, _, rfl, rfl, dX1_layCross_90, rfl, rfl⟩)) ⟨rfl, rfl⟩
  · have h_8 := it_f h_1 ch_1
    refine j_iload (pc' := 17) cx 0 dX1_layCross_15 rfl rfl ?_
    refine j_iconst (pc' := 18) cx 4 dX1_layCross_17 ki_4 rfl ?_
    obtain ⟨t8, h_10, h_9⟩ := bd_s h_8
    have Kt8 : j 0 0 [(hNW, .inr (3, [.int NWru, .int NWco, .ref hNWk, .ref hNWt, .ref hNWm, .ref hNWc])), (hNWk, .inl (cI, 30, .inl NWKa)), (hNWt, .inl (cI, 30, .inl NWTa)), (hNWm, .inl (cI, 30, .inl NWMa)), (hNWc, .inl (cI, 24, .inl NWCa)), (hCA, .inr (0, [.ref hNW, .ref hCAo, .ref hCAp])), (hCAo, .inl (cI, 150, .inl CAow)), (hCAp, .inl (cI, 150, .inl CApa))] [] 28 [.int t8] := by
      have h_11 := so_i h_9
      subst h_11
      exact j_ret cx (Or.inr (Or.inl ⟨_, _, rfl, rfl, dX1_layCross_28, rfl, rfl⟩)) ⟨rfl, rfl⟩
    refine j_icmp_ne (tgt := 26) (pc' := 21) cx dX1_layCross_18 (by decide) rfl (fun ch_10 => ?_) (fun ch_10 => ?_)
    · have h_12 := it_f h_10 ch_10
      refine j_bipush (pc' := 28) cx (-4) dX1_layCross_26 kb_m4 rfl ?_
      have h_13 := so_i h_12
      subst h_13
      refine j_lv (lv' := []) cx [] rfl ?_
      exact Kt8
    · have h_14 := it_t h_10 ch_10
      refine j_bipush (pc' := 23) cx (-3) dX1_layCross_21 kb_m3 rfl ?_
      refine j_goto (pc' := 28) cx dX1_layCross_23 (by decide) ?_
      have h_15 := so_i h_14
      subst h_15
      refine j_lv (lv' := []) cx [] rfl ?_
      exact Kt8
set_option maxHeartbeats 4000000 in
set_option maxRecDepth 100000 in
theorem c_X1_takeAway (l : Launch) (D : va_G) (cI cZ cC cS : ClassId) (hNW hNWk hNWt hNWm hNWc hCA hCAo hCAp : Nat) (NWru : Int32) (NWco : Int32) (NWKa : Nat → Int32) (NWTa : Nat → Int32) (NWMa : Nat → Int32) (CAow : Nat → Int32) (CApa : Nat → Int32) (p0 : Int32) (out : Int32 × Int32 × (Nat → Int32) × (Nat → Int32) × (Nat → Int32) × (Nat → Int32) × (Nat → Int32)) (hm : f_X1_takeAway NWco NWKa NWTa NWMa CAow CApa p0 = some out) : Ct l yX1_takeAway cX1_takeAway 3 (some .int) ({ frames := 3, cells := 0, slots := 0, locals := 69 }) (D, TY cI cZ cC cS) [.ref hCA, .int p0] [(hNW, .inr (3, [.int NWru, .int NWco, .ref hNWk, .ref hNWt, .ref hNWm, .ref hNWc])), (hNWk, .inl (cI, 30, .inl NWKa)), (hNWt, .inl (cI, 30, .inl NWTa)), (hNWm, .inl (cI, 30, .inl NWMa)), (hCA, .inr (0, [.ref hNW, .ref hCAo, .ref hCAp])), (hCAo, .inl (cI, 150, .inl CAow)), (hCAp, .inl (cI, 150, .inl CApa))] (jw_P (some (.int out.1)) [(hNW, .inr (3, [.int NWru, .int out.2.1, .ref hNWk, .ref hNWt, .ref hNWm, .ref hNWc])), (hNWk, .inl (cI, 30, .inl out.2.2.1)), (hNWt, .inl (cI, 30, .inl out.2.2.2.1)), (hNWm, .inl (cI, 30, .inl out.2.2.2.2.1)), (hCA, .inr (0, [.ref hNW, .ref hCAo, .ref hCAp])), (hCAo, .inl (cI, 150, .inl out.2.2.2.2.2.1)), (hCAp, .inl (cI, 150, .inl out.2.2.2.2.2.2))]) 0 0 := by
  refine ct_of RX1 (by decide +kernel) rfl (Nat.le_of_ble_eq_true rfl) (fun j cx => ?_)
  unfold f_X1_takeAway at hm
  show j 0 0 [(hNW, .inr (3, [.int NWru, .int NWco, .ref hNWk, .ref hNWt, .ref hNWm, .ref hNWc])), (hNWk, .inl (cI, 30, .inl NWKa)), (hNWt, .inl (cI, 30, .inl NWTa)), (hNWm, .inl (cI, 30, .inl NWMa)), (hCA, .inr (0, [.ref hNW, .ref hCAo, .ref hCAp])), (hCAo, .inl (cI, 150, .inl CAow)), (hCAp, .inl (cI, 150, .inl CApa))] [(0, .ref hCA), (1, .int p0)] 0 []
  refine j_iload_n (pc' := 1) cx 1 dX1_takeAway_0 rfl rfl ?_
  refine j_iconst (pc' := 2) cx 1 dX1_takeAway_1 ki_1 rfl ?_
  refine j_iadd (pc' := 3) cx dX1_takeAway_2 rfl ?_
  refine j_istore_n (lv' := [(2, .int (p0 + 1)), (0, .ref hCA), (1, .int p0)]) (pc' := 4) cx dX1_takeAway_3 (by decide) rfl rfl ?_
  obtain ⟨e2, h_1, h_2⟩ := bd_s hm
  have KXe2 : j 0 0 [(hNW, .inr (3, [.int NWru, .int NWco, .ref hNWk, .ref hNWt, .ref hNWm, .ref hNWc])), (hNWk, .inl (cI, 30, .inl e2.2.1)), (hNWt, .inl (cI, 30, .inl e2.2.2.1)), (hNWm, .inl (cI, 30, .inl e2.2.2.2)), (hCA, .inr (0, [.ref hNW, .ref hCAo, .ref hCAp])), (hCAo, .inl (cI, 150, .inl CAow)), (hCAp, .inl (cI, 150, .inl CApa))] [(0, .ref hCA)] 81 [] := by
    refine j_aload_n (pc' := 82) cx 0 dX1_takeAway_81 rfl rfl ?_
    refine j_get (C := RX1) (T := TX1) (N := 3) (pc' := 85) cx uB_X1 4 rfl rfl 0 (by decide) wF_X1_12 (.ref hNW) rfl dX1_takeAway_82 rfl ?_
    refine j_dup (pc' := 86) cx dX1_takeAway_85 rfl rfl ?_
    refine j_get (C := RX4) (T := TX4) (N := 6) (pc' := 89) cx uB_X4 0 rfl rfl 1 (by decide) wF_X1_28 (.int NWco) rfl dX1_takeAway_86 rfl ?_
    refine j_iconst (pc' := 90) cx 1 dX1_takeAway_89 ki_1 rfl ?_
    refine j_isub (pc' := 91) cx dX1_takeAway_90 rfl ?_
    refine j_put (C := RX4) (T := TX4) (N := 6) (ws' := [(hNW, .inr (3, [.int NWru, .int (NWco - 1), .ref hNWk, .ref hNWt, .ref hNWm, .ref hNWc])), (hNWk, .inl (cI, 30, .inl e2.2.1)), (hNWt, .inl (cI, 30, .inl e2.2.2.1)), (hNWm, .inl (cI, 30, .inl e2.2.2.2)), (hCA, .inr (0, [.ref hNW, .ref hCAo, .ref hCAp])), (hCAo, .inl (cI, 150, .inl CAow)), (hCAp, .inl (cI, 150, .inl CApa))]) (pc' := 94) cx uB_X4 tyX4 tyX4_ok nmX4 0 rfl rfl 1 (by decide) wF_X1_28 rfl rfl rfl (Nat.le_of_ble_eq_true rfl) rfl dX1_takeAway_91 rfl ?_
    refine j_aload_n (pc' := 95) cx 0 dX1_takeAway_94 rfl rfl ?_
    obtain ⟨r9, c10, h_3⟩ := bd_s h_2
    refine j_cV (pc' := 98) cx (c_X1_layOut l D cI cZ cC cS hNW hNWk hNWt hNWm hNWc hCA hCAo hCAp NWru (NWco - 1) e2.2.2.2 CAow CApa r9 c10) 0 yk_X1_layOut wM_X1_25 ⟨wN_X1_layOut, wS_X1_layOut, wI_X1, wC_X1_layOut⟩ ⟨rfl, rfl, Nat.le_of_ble_eq_true rfl, Nat.le_of_ble_eq_true rfl, Nat.le_of_ble_eq_true rfl, Nat.le_of_ble_eq_true rfl⟩ [0, 3, 4, 5, 6] [1, 2] [2, 0, 1, 3, 4, 5, 6] rfl [(hNWk, .inl (cI, 30, .inl e2.2.1)), (hNWt, .inl (cI, 30, .inl e2.2.2.1))] rfl (by decide) [(hNW, .inr (3, [.int NWru, .int (NWco - 1), .ref hNWk, .ref hNWt, .ref hNWm, .ref hNWc])), (hNWk, .inl (cI, 30, .inl e2.2.1)), (hNWt, .inl (cI, 30, .inl e2.2.2.1)), (hNWm, .inl (cI, 30, .inl e2.2.2.2)), (hCA, .inr (0, [.ref hNW, .ref hCAo, .ref hCAp])), (hCAo, .inl (cI, 150, .inl r9.1)), (hCAp, .inl (cI, 150, .inl r9.2))] rfl (by decide) 4 0 rfl rfl rfl rfl rfl (Nat.le_of_ble_eq_true rfl) dX1_takeAway_95 rfl ?_
    refine j_aload_n (pc' := 99) cx 0 dX1_takeAway_98 rfl rfl ?_
    refine j_get (C := RX1) (T := TX1) (N := 3) (pc' := 102) cx uB_X1 4 rfl rfl 0 (by decide) wF_X1_12 (.ref hNW) rfl dX1_takeAway_99 rfl ?_
    refine j_get (C := RX4) (T := TX4) (N := 6) (pc' := 105) cx uB_X4 0 rfl rfl 1 (by decide) wF_X1_28 (.int (NWco - 1)) rfl dX1_takeAway_102 rfl ?_
    have h_4 := so_i h_3
    subst h_4
    exact j_ret cx (Or.inr (Or.inl ⟨_, _, rfl, rfl, dX1_takeAway_105, rfl, rfl⟩)) ⟨rfl, rfl⟩
  have LPe2 : ∀ (n : Nat) (s1 : Int32 × (Nat → Int32) × (Nat → Int32) × (Nat → Int32)), lp (f_X1_takeAway_b1 NWco) n s1 = some e2 → j 0 0 [(hNW, .inr (3, [.int NWru, .int NWco, .ref hNWk, .ref hNWt, .ref hNWm, .ref hNWc])), (hNWk, .inl (cI, 30, .inl s1.2.1)), (hNWt, .inl (cI, 30, .inl s1.2.2.1)), (hNWm, .inl (cI, 30, .inl s1.2.2.2)), (hCA, .inr (0, [.ref hNW, .ref hCAo, .ref hCAp])), (hCAo, .inl (cI, 150, .inl CAow)), (hCAp, .inl (cI, 150, .inl CApa))] [(0, .ref hCA), (2, .int s1.1)] 4 [] := by
    intro n
    induction n with
    | zero => intro s1 z; exact absurd z (by intro z; cases z)
    | succ n ihe2 =>
      intro s1 h_5
      obtain ⟨q_6, h_7, h_8⟩ := bd_s h_5
      unfold f_X1_takeAway_b1 at h_7
      refine j_iload_n (pc' := 5) cx 1 dX1_takeAway_4 rfl rfl ?_
      refine j_aload_n (pc' := 6) cx 0 dX1_takeAway_5 rfl rfl ?_
      refine j_get (C := RX1) (T := TX1) (N := 3) (pc' := 9) cx uB_X1 4 rfl rfl 0 (by decide) wF_X1_12 (.ref hNW) rfl dX1_takeAway_6 rfl ?_
      refine j_get (C := RX4) (T := TX4) (N := 6) (pc' := 12) cx uB_X4 0 rfl rfl 1 (by decide) wF_X1_28 (.int NWco) rfl dX1_takeAway_9 rfl ?_
      refine j_icmp_ge (tgt := 81) (pc' := 15) cx dX1_takeAway_12 (by decide) rfl (fun ch_7 => ?_) (fun ch_7 => ?_)
      · have h_9 := it_t h_7 ch_7
        have h_10 := so_i h_9
        subst h_10
        have h_11 := so_i (se_r h_8)
        subst h_11
        refine j_lv (lv' := [(0, .ref hCA)]) cx [0] rfl ?_
        exact KXe2
      · have h_12 := it_f h_7 ch_7
        refine j_aload_n (pc' := 16) cx 0 dX1_takeAway_15 rfl rfl ?_
        refine j_get (C := RX1) (T := TX1) (N := 3) (pc' := 19) cx uB_X1 4 rfl rfl 0 (by decide) wF_X1_12 (.ref hNW) rfl dX1_takeAway_16 rfl ?_
        refine j_get (C := RX4) (T := TX4) (N := 6) (pc' := 22) cx uB_X4 0 rfl rfl 2 (by decide) wF_X1_41 (.ref hNWk) rfl dX1_takeAway_19 rfl ?_
        refine j_iload_n (pc' := 23) cx 1 dX1_takeAway_22 rfl rfl ?_
        refine j_iconst (pc' := 24) cx 1 dX1_takeAway_23 ki_1 rfl ?_
        refine j_isub (pc' := 25) cx dX1_takeAway_24 rfl ?_
        refine j_aload_n (pc' := 26) cx 0 dX1_takeAway_25 rfl rfl ?_
        refine j_get (C := RX1) (T := TX1) (N := 3) (pc' := 29) cx uB_X1 4 rfl rfl 0 (by decide) wF_X1_12 (.ref hNW) rfl dX1_takeAway_26 rfl ?_
        refine j_get (C := RX4) (T := TX4) (N := 6) (pc' := 32) cx uB_X4 0 rfl rfl 2 (by decide) wF_X1_41 (.ref hNWk) rfl dX1_takeAway_29 rfl ?_
        refine j_iload_n (pc' := 33) cx 1 dX1_takeAway_32 rfl rfl ?_
        obtain ⟨i3, h_13⟩ := ck_s h_12
        refine j_iald (pc' := 34) cx 1 0 rfl rfl i3 dX1_takeAway_33 rfl ?_
        obtain ⟨i4, h_14⟩ := ck_s h_13
        refine j_iast (ws' := [(hNW, .inr (3, [.int NWru, .int NWco, .ref hNWk, .ref hNWt, .ref hNWm, .ref hNWc])), (hNWk, .inl (cI, 30, .inl (upd s1.2.1 (s1.1 - 1).toNatClampNeg (s1.2.1 s1.1.toNatClampNeg)))), (hNWt, .inl (cI, 30, .inl s1.2.2.1)), (hNWm, .inl (cI, 30, .inl s1.2.2.2)), (hCA, .inr (0, [.ref hNW, .ref hCAo, .ref hCAp])), (hCAo, .inl (cI, 150, .inl CAow)), (hCAp, .inl (cI, 150, .inl CApa))]) (pc' := 35) cx 1 0 rfl rfl i4 rfl dX1_takeAway_34 rfl ?_
        refine j_aload_n (pc' := 36) cx 0 dX1_takeAway_35 rfl rfl ?_
        refine j_get (C := RX1) (T := TX1) (N := 3) (pc' := 39) cx uB_X1 4 rfl rfl 0 (by decide) wF_X1_12 (.ref hNW) rfl dX1_takeAway_36 rfl ?_
        refine j_get (C := RX4) (T := TX4) (N := 6) (pc' := 42) cx uB_X4 0 rfl rfl 3 (by decide) wF_X1_44 (.ref hNWt) rfl dX1_takeAway_39 rfl ?_
        refine j_iload_n (pc' := 43) cx 1 dX1_takeAway_42 rfl rfl ?_
        refine j_iconst (pc' := 44) cx 1 dX1_takeAway_43 ki_1 rfl ?_
        refine j_isub (pc' := 45) cx dX1_takeAway_44 rfl ?_
        refine j_aload_n (pc' := 46) cx 0 dX1_takeAway_45 rfl rfl ?_
        refine j_get (C := RX1) (T := TX1) (N := 3) (pc' := 49) cx uB_X1 4 rfl rfl 0 (by decide) wF_X1_12 (.ref hNW) rfl dX1_takeAway_46 rfl ?_
        refine j_get (C := RX4) (T := TX4) (N := 6) (pc' := 52) cx uB_X4 0 rfl rfl 3 (by decide) wF_X1_44 (.ref hNWt) rfl dX1_takeAway_49 rfl ?_
        refine j_iload_n (pc' := 53) cx 1 dX1_takeAway_52 rfl rfl ?_
        obtain ⟨i5, h_15⟩ := ck_s h_14
        refine j_iald (pc' := 54) cx 2 0 rfl rfl i5 dX1_takeAway_53 rfl ?_
        obtain ⟨i6, h_16⟩ := ck_s h_15
        refine j_iast (ws' := [(hNW, .inr (3, [.int NWru, .int NWco, .ref hNWk, .ref hNWt, .ref hNWm, .ref hNWc])), (hNWk, .inl (cI, 30, .inl (upd s1.2.1 (s1.1 - 1).toNatClampNeg (s1.2.1 s1.1.toNatClampNeg)))), (hNWt, .inl (cI, 30, .inl (upd s1.2.2.1 (s1.1 - 1).toNatClampNeg (s1.2.2.1 s1.1.toNatClampNeg)))), (hNWm, .inl (cI, 30, .inl s1.2.2.2)), (hCA, .inr (0, [.ref hNW, .ref hCAo, .ref hCAp])), (hCAo, .inl (cI, 150, .inl CAow)), (hCAp, .inl (cI, 150, .inl CApa))]) (pc' := 55) cx 2 0 rfl rfl i6 rfl dX1_takeAway_54 rfl ?_
        refine j_aload_n (pc' := 56) cx 0 dX1_takeAway_55 rfl rfl ?_
        refine j_get (C := RX1) (T := TX1) (N := 3) (pc' := 59) cx uB_X1 4 rfl rfl 0 (by decide) wF_X1_12 (.ref hNW) rfl dX1_takeAway_56 rfl ?_
        refine j_get (C := RX4) (T := TX4) (N := 6) (pc' := 62) cx uB_X4 0 rfl rfl 4 (by decide) wF_X1_32 (.ref hNWm) rfl dX1_takeAway_59 rfl ?_
        refine j_iload_n (pc' := 63) cx 1 dX1_takeAway_62 rfl rfl ?_
        refine j_iconst (pc' := 64) cx 1 dX1_takeAway_63 ki_1 rfl ?_
        refine j_isub (pc' := 65) cx dX1_takeAway_64 rfl ?_
        refine j_aload_n (pc' := 66) cx 0 dX1_takeAway_65 rfl rfl ?_
        refine j_get (C := RX1) (T := TX1) (N := 3) (pc' := 69) cx uB_X1 4 rfl rfl 0 (by decide) wF_X1_12 (.ref hNW) rfl dX1_takeAway_66 rfl ?_
        refine j_get (C := RX4) (T := TX4) (N := 6) (pc' := 72) cx uB_X4 0 rfl rfl 4 (by decide) wF_X1_32 (.ref hNWm) rfl dX1_takeAway_69 rfl ?_
        refine j_iload_n (pc' := 73) cx 1 dX1_takeAway_72 rfl rfl ?_
        obtain ⟨i7, h_17⟩ := ck_s h_16
        refine j_iald (pc' := 74) cx 3 0 rfl rfl i7 dX1_takeAway_73 rfl ?_
        obtain ⟨i8, h_18⟩ := ck_s h_17
        refine j_iast (ws' := [(hNW, .inr (3, [.int NWru, .int NWco, .ref hNWk, .ref hNWt, .ref hNWm, .ref hNWc])), (hNWk, .inl (cI, 30, .inl (upd s1.2.1 (s1.1 - 1).toNatClampNeg (s1.2.1 s1.1.toNatClampNeg)))), (hNWt, .inl (cI, 30, .inl (upd s1.2.2.1 (s1.1 - 1).toNatClampNeg (s1.2.2.1 s1.1.toNatClampNeg)))), (hNWm, .inl (cI, 30, .inl (upd s1.2.2.2 (s1.1 - 1).toNatClampNeg (s1.2.2.2 s1.1.toNatClampNeg)))), (hCA, .inr (0, [.ref hNW, .ref hCAo, .ref hCAp])), (hCAo, .inl (cI, 150, .inl CAow)), (hCAp, .inl (cI, 150, .inl CApa))]) (pc' := 75) cx 3 0 rfl rfl i8 rfl dX1_takeAway_74 rfl ?_
        refine j_iinc (v := (s1.1 + 1)) (lv' := [(2, .int (s1.1 + 1)), (0, .ref hCA)]) (pc' := 78) cx 1 dX1_takeAway_75 rfl (kn_1 _) (by decide) rfl rfl ?_
        refine j_goto (pc' := 4) cx dX1_takeAway_78 (by decide) ?_
        have h_19 := so_i h_18
        subst h_19
        refine j_lv (lv' := [(0, .ref hCA), (2, .int (s1.1 + 1))]) cx [1, 0] rfl ?_
        exact ihe2 _ (se_l h_8)
  refine j_lv (lv' := [(0, .ref hCA), (2, .int (p0 + 1))]) cx [1, 0] rfl ?_
  exact LPe2 _ _ h_1
set_option maxHeartbeats 4000000 in
set_option maxRecDepth 100000 in
theorem c_X1_turnFurther (l : Launch) (D : va_G) (cI cZ cC cS : ClassId) (hNW hNWk hNWt hNWm hNWc hCA hCAo hCAp : Nat) (NWru : Int32) (NWco : Int32) (NWKa : Nat → Int32) (NWTa : Nat → Int32) (NWMa : Nat → Int32) (NWCa : Nat → Int32) (CAow : Nat → Int32) (CApa : Nat → Int32) (p0 : Int32) (p1 : Int32) (out : Int32 × (Nat → Int32)) (hm : f_X1_turnFurther NWru NWKa NWTa NWMa NWCa CAow CApa p0 p1 = some out) : Ct l yX1_turnFurther cX1_turnFurther 4 (some .int) ({ frames := 3, cells := 0, slots := 0, locals := 75 }) (D, TY cI cZ cC cS) [.ref hCA, .int p0, .int p1] [(hNW, .inr (3, [.int NWru, .int NWco, .ref hNWk, .ref hNWt, .ref hNWm, .ref hNWc])), (hNWk, .inl (cI, 30, .inl NWKa)), (hNWt, .inl (cI, 30, .inl NWTa)), (hNWm, .inl (cI, 30, .inl NWMa)), (hNWc, .inl (cI, 24, .inl NWCa)), (hCA, .inr (0, [.ref hNW, .ref hCAo, .ref hCAp])), (hCAo, .inl (cI, 150, .inl CAow)), (hCAp, .inl (cI, 150, .inl CApa))] (jw_P (some (.int out.1)) [(hNW, .inr (3, [.int NWru, .int NWco, .ref hNWk, .ref hNWt, .ref hNWm, .ref hNWc])), (hNWk, .inl (cI, 30, .inl NWKa)), (hNWt, .inl (cI, 30, .inl out.2)), (hNWm, .inl (cI, 30, .inl NWMa)), (hNWc, .inl (cI, 24, .inl NWCa)), (hCA, .inr (0, [.ref hNW, .ref hCAo, .ref hCAp])), (hCAo, .inl (cI, 150, .inl CAow)), (hCAp, .inl (cI, 150, .inl CApa))]) 0 0 := by
  refine ct_of RX1 (by decide +kernel) rfl (Nat.le_of_ble_eq_true rfl) (fun j cx => ?_)
  unfold f_X1_turnFurther at hm
  show j 0 0 [(hNW, .inr (3, [.int NWru, .int NWco, .ref hNWk, .ref hNWt, .ref hNWm, .ref hNWc])), (hNWk, .inl (cI, 30, .inl NWKa)), (hNWt, .inl (cI, 30, .inl NWTa)), (hNWm, .inl (cI, 30, .inl NWMa)), (hNWc, .inl (cI, 24, .inl NWCa)), (hCA, .inr (0, [.ref hNW, .ref hCAo, .ref hCAp])), (hCAo, .inl (cI, 150, .inl CAow)), (hCAp, .inl (cI, 150, .inl CApa))] [(0, .ref hCA), (1, .int p0), (2, .int p1)] 0 []
  refine j_aload_n (pc' := 1) cx 0 dX1_turnFurther_0 rfl rfl ?_
  refine j_get (C := RX1) (T := TX1) (N := 3) (pc' := 4) cx uB_X1 5 rfl rfl 0 (by decide) wF_X1_12 (.ref hNW) rfl dX1_turnFurther_1 rfl ?_
  refine j_get (C := RX4) (T := TX4) (N := 6) (pc' := 7) cx uB_X4 0 rfl rfl 3 (by decide) wF_X1_44 (.ref hNWt) rfl dX1_turnFurther_4 rfl ?_
  refine j_iload_n (pc' := 8) cx 1 dX1_turnFurther_7 rfl rfl ?_
  obtain ⟨i1, h_1⟩ := ck_s hm
  refine j_iald (pc' := 9) cx 2 0 rfl rfl i1 dX1_turnFurther_8 rfl ?_
  refine j_iload_n (pc' := 10) cx 2 dX1_turnFurther_9 rfl rfl ?_
  refine j_iadd (pc' := 11) cx dX1_turnFurther_10 rfl ?_
  refine j_iconst (pc' := 12) cx 4 dX1_turnFurther_11 ki_4 rfl ?_
  refine j_irem (pc' := 13) cx dX1_turnFurther_12 kz_4 rfl ?_
  refine j_istore_n (lv' := [(3, .int (rm ((NWTa p0.toNatClampNeg) + p1) 4)), (0, .ref hCA), (1, .int p0), (2, .int p1)]) (pc' := 14) cx dX1_turnFurther_13 (by decide) rfl rfl ?_
  refine j_aload_n (pc' := 15) cx 1 dX1_turnFurther_14 rfl rfl ?_
  refine j_aload_n (pc' := 16) cx 1 dX1_turnFurther_15 rfl rfl ?_
  refine j_get (C := RX1) (T := TX1) (N := 3) (pc' := 19) cx uB_X1 5 rfl rfl 0 (by decide) wF_X1_12 (.ref hNW) rfl dX1_turnFurther_16 rfl ?_
  refine j_get (C := RX4) (T := TX4) (N := 6) (pc' := 22) cx uB_X4 0 rfl rfl 2 (by decide) wF_X1_41 (.ref hNWk) rfl dX1_turnFurther_19 rfl ?_
  refine j_iload_n (pc' := 23) cx 2 dX1_turnFurther_22 rfl rfl ?_
  obtain ⟨i2, h_2⟩ := ck_s h_1
  refine j_iald (pc' := 24) cx 1 0 rfl rfl i2 dX1_turnFurther_23 rfl ?_
  refine j_iload_n (pc' := 25) cx 0 dX1_turnFurther_24 rfl rfl ?_
  refine j_aload_n (pc' := 26) cx 1 dX1_turnFurther_25 rfl rfl ?_
  refine j_get (C := RX1) (T := TX1) (N := 3) (pc' := 29) cx uB_X1 5 rfl rfl 0 (by decide) wF_X1_12 (.ref hNW) rfl dX1_turnFurther_26 rfl ?_
  refine j_get (C := RX4) (T := TX4) (N := 6) (pc' := 32) cx uB_X4 0 rfl rfl 4 (by decide) wF_X1_32 (.ref hNWm) rfl dX1_turnFurther_29 rfl ?_
  refine j_iload_n (pc' := 33) cx 2 dX1_turnFurther_32 rfl rfl ?_
  obtain ⟨i3, h_3⟩ := ck_s h_2
  refine j_iald (pc' := 34) cx 3 0 rfl rfl i3 dX1_turnFurther_33 rfl ?_
  refine j_iload_n (pc' := 35) cx 2 dX1_turnFurther_34 rfl rfl ?_
  obtain ⟨r4, c5, h_4⟩ := bd_s h_3
  refine j_cV (pc' := 38) cx (c_X1_wouldClash l D cI cZ cC cS hNW hNWk hNWt hNWm hNWc hCA hCAo hCAp NWru NWco NWKa NWTa NWCa CAow CApa (NWKa p0.toNatClampNeg) (rm ((NWTa p0.toNatClampNeg) + p1) 4) (NWMa p0.toNatClampNeg) p0 r4 c5) 4 yk_X1_wouldClash wM_X1_51 ⟨wN_X1_wouldClash, wS_X1_wouldClash, wI_X1, wC_X1_wouldClash⟩ ⟨rfl, rfl, Nat.le_of_ble_eq_true rfl, Nat.le_of_ble_eq_true rfl, Nat.le_of_ble_eq_true rfl, Nat.le_of_ble_eq_true rfl⟩ [0, 1, 2, 4, 5, 6, 7] [3] [1, 2, 3, 0, 4, 5, 6, 7] rfl [(hNWm, .inl (cI, 30, .inl NWMa))] rfl (by decide) [(hNW, .inr (3, [.int NWru, .int NWco, .ref hNWk, .ref hNWt, .ref hNWm, .ref hNWc])), (hNWk, .inl (cI, 30, .inl NWKa)), (hNWt, .inl (cI, 30, .inl NWTa)), (hNWm, .inl (cI, 30, .inl NWMa)), (hNWc, .inl (cI, 24, .inl NWCa)), (hCA, .inr (0, [.ref hNW, .ref hCAo, .ref hCAp])), (hCAo, .inl (cI, 150, .inl CAow)), (hCAp, .inl (cI, 150, .inl CApa))] rfl (by decide) 5 0 rfl rfl rfl rfl rfl (Nat.le_of_ble_eq_true rfl) dX1_turnFurther_35 rfl ?_
  refine j_if_eq (tgt := 44) (pc' := 41) cx dX1_turnFurther_38 (by decide) rfl (fun ch_4 => ?_) (fun ch_4 => ?_)
  · have h_5 := it_t h_4 ch_4
    refine j_aload_n (pc' := 45) cx 1 dX1_turnFurther_44 rfl rfl ?_
    refine j_get (C := RX1) (T := TX1) (N := 3) (pc' := 48) cx uB_X1 5 rfl rfl 0 (by decide) wF_X1_12 (.ref hNW) rfl dX1_turnFurther_45 rfl ?_
    refine j_get (C := RX4) (T := TX4) (N := 6) (pc' := 51) cx uB_X4 0 rfl rfl 3 (by decide) wF_X1_44 (.ref hNWt) rfl dX1_turnFurther_48 rfl ?_
    refine j_iload_n (pc' := 52) cx 2 dX1_turnFurther_51 rfl rfl ?_
    refine j_iload_n (pc' := 53) cx 0 dX1_turnFurther_52 rfl rfl ?_
    obtain ⟨i6, h_6⟩ := ck_s h_5
    refine j_iast (ws' := [(hNW, .inr (3, [.int NWru, .int NWco, .ref hNWk, .ref hNWt, .ref hNWm, .ref hNWc])), (hNWk, .inl (cI, 30, .inl NWKa)), (hNWt, .inl (cI, 30, .inl (upd NWTa p0.toNatClampNeg (rm ((NWTa p0.toNatClampNeg) + p1) 4)))), (hNWm, .inl (cI, 30, .inl NWMa)), (hNWc, .inl (cI, 24, .inl NWCa)), (hCA, .inr (0, [.ref hNW, .ref hCAo, .ref hCAp])), (hCAo, .inl (cI, 150, .inl CAow)), (hCAp, .inl (cI, 150, .inl CApa))]) (pc' := 54) cx 2 0 rfl rfl i6 rfl dX1_turnFurther_53 rfl ?_
    refine j_iload_n (pc' := 55) cx 0 dX1_turnFurther_54 rfl rfl ?_
    have h_7 := so_i h_6
    subst h_7
    exact j_ret cx (Or.inr (Or.inl ⟨_, _, rfl, rfl, dX1_turnFurther_55, rfl, rfl⟩)) ⟨rfl, rfl⟩
  · have h_8 := it_f h_4 ch_4
    refine j_bipush (pc' := 43) cx (-4) dX1_turnFurther_41 kb_m4 rfl ?_
    have h_9 := so_i h_8
    subst h_9
    exact j_ret cx (Or.inr (Or.inl ⟨_, _, rfl, rfl, dX1_turnFurther_43, rfl, rfl⟩)) ⟨rfl, rfl⟩
set_option maxHeartbeats 4000000 in
set_option maxRecDepth 100000 in
theorem c_X1_moveTo (l : Launch) (D : va_G) (cI cZ cC cS : ClassId) (hNW hNWk hNWt hNWm hNWc hCA hCAo hCAp : Nat) (NWru : Int32) (NWco : Int32) (NWKa : Nat → Int32) (NWTa : Nat → Int32) (NWMa : Nat → Int32) (NWCa : Nat → Int32) (CAow : Nat → Int32) (CApa : Nat → Int32) (p0 : Int32) (p1 : Int32) (out : Int32 × (Nat → Int32) × (Nat → Int32) × (Nat → Int32)) (hm : f_X1_moveTo NWru NWco NWKa NWTa NWMa NWCa CAow CApa p0 p1 = some out) : Ct l yX1_moveTo cX1_moveTo 4 (some .int) ({ frames := 4, cells := 0, slots := 0, locals := 100 }) (D, TY cI cZ cC cS) [.ref hCA, .int p0, .int p1] [(hNW, .inr (3, [.int NWru, .int NWco, .ref hNWk, .ref hNWt, .ref hNWm, .ref hNWc])), (hNWk, .inl (cI, 30, .inl NWKa)), (hNWt, .inl (cI, 30, .inl NWTa)), (hNWm, .inl (cI, 30, .inl NWMa)), (hNWc, .inl (cI, 24, .inl NWCa)), (hCA, .inr (0, [.ref hNW, .ref hCAo, .ref hCAp])), (hCAo, .inl (cI, 150, .inl CAow)), (hCAp, .inl (cI, 150, .inl CApa))] (jw_P (some (.int out.1)) [(hNW, .inr (3, [.int NWru, .int NWco, .ref hNWk, .ref hNWt, .ref hNWm, .ref hNWc])), (hNWk, .inl (cI, 30, .inl NWKa)), (hNWt, .inl (cI, 30, .inl NWTa)), (hNWm, .inl (cI, 30, .inl out.2.1)), (hNWc, .inl (cI, 24, .inl NWCa)), (hCA, .inr (0, [.ref hNW, .ref hCAo, .ref hCAp])), (hCAo, .inl (cI, 150, .inl out.2.2.1)), (hCAp, .inl (cI, 150, .inl out.2.2.2))]) 0 0 := by
  refine ct_of RX1 (by decide +kernel) rfl (Nat.le_of_ble_eq_true rfl) (fun j cx => ?_)
  unfold f_X1_moveTo at hm
  show j 0 0 [(hNW, .inr (3, [.int NWru, .int NWco, .ref hNWk, .ref hNWt, .ref hNWm, .ref hNWc])), (hNWk, .inl (cI, 30, .inl NWKa)), (hNWt, .inl (cI, 30, .inl NWTa)), (hNWm, .inl (cI, 30, .inl NWMa)), (hNWc, .inl (cI, 24, .inl NWCa)), (hCA, .inr (0, [.ref hNW, .ref hCAo, .ref hCAp])), (hCAo, .inl (cI, 150, .inl CAow)), (hCAp, .inl (cI, 150, .inl CApa))] [(0, .ref hCA), (1, .int p0), (2, .int p1)] 0 []
  refine j_aload_n (pc' := 1) cx 0 dX1_moveTo_0 rfl rfl ?_
  refine j_get (C := RX1) (T := TX1) (N := 3) (pc' := 4) cx uB_X1 5 rfl rfl 0 (by decide) wF_X1_12 (.ref hNW) rfl dX1_moveTo_1 rfl ?_
  refine j_get (C := RX4) (T := TX4) (N := 6) (pc' := 7) cx uB_X4 0 rfl rfl 4 (by decide) wF_X1_32 (.ref hNWm) rfl dX1_moveTo_4 rfl ?_
  refine j_iload_n (pc' := 8) cx 1 dX1_moveTo_7 rfl rfl ?_
  obtain ⟨i1, h_1⟩ := ck_s hm
  refine j_iald (pc' := 9) cx 3 0 rfl rfl i1 dX1_moveTo_8 rfl ?_
  refine j_istore_n (lv' := [(3, .int (NWMa p0.toNatClampNeg)), (0, .ref hCA), (1, .int p0), (2, .int p1)]) (pc' := 10) cx dX1_moveTo_9 (by decide) rfl rfl ?_
  refine j_aload_n (pc' := 11) cx 1 dX1_moveTo_10 rfl rfl ?_
  refine j_aload_n (pc' := 12) cx 1 dX1_moveTo_11 rfl rfl ?_
  refine j_get (C := RX1) (T := TX1) (N := 3) (pc' := 15) cx uB_X1 5 rfl rfl 0 (by decide) wF_X1_12 (.ref hNW) rfl dX1_moveTo_12 rfl ?_
  refine j_get (C := RX4) (T := TX4) (N := 6) (pc' := 18) cx uB_X4 0 rfl rfl 2 (by decide) wF_X1_41 (.ref hNWk) rfl dX1_moveTo_15 rfl ?_
  refine j_iload_n (pc' := 19) cx 2 dX1_moveTo_18 rfl rfl ?_
  obtain ⟨i2, h_2⟩ := ck_s h_1
  refine j_iald (pc' := 20) cx 1 0 rfl rfl i2 dX1_moveTo_19 rfl ?_
  refine j_aload_n (pc' := 21) cx 1 dX1_moveTo_20 rfl rfl ?_
  refine j_get (C := RX1) (T := TX1) (N := 3) (pc' := 24) cx uB_X1 5 rfl rfl 0 (by decide) wF_X1_12 (.ref hNW) rfl dX1_moveTo_21 rfl ?_
  refine j_get (C := RX4) (T := TX4) (N := 6) (pc' := 27) cx uB_X4 0 rfl rfl 3 (by decide) wF_X1_44 (.ref hNWt) rfl dX1_moveTo_24 rfl ?_
  refine j_iload_n (pc' := 28) cx 2 dX1_moveTo_27 rfl rfl ?_
  obtain ⟨i3, h_3⟩ := ck_s h_2
  refine j_iald (pc' := 29) cx 2 0 rfl rfl i3 dX1_moveTo_28 rfl ?_
  refine j_iload_n (pc' := 30) cx 3 dX1_moveTo_29 rfl rfl ?_
  refine j_iload_n (pc' := 31) cx 2 dX1_moveTo_30 rfl rfl ?_
  obtain ⟨r4, c5, h_4⟩ := bd_s h_3
  refine j_cV (pc' := 34) cx (c_X1_whyNot l D cI cZ cC cS hNW hNWk hNWt hNWm hNWc hCA hCAo hCAp NWru NWco NWKa NWTa NWCa CAow CApa (NWKa p0.toNatClampNeg) (NWTa p0.toNatClampNeg) p1 p0 r4 c5) 4 yk_X1_whyNot wM_X1_68 ⟨wN_X1_whyNot, wS_X1_whyNot, wI_X1, wC_X1_whyNot⟩ ⟨rfl, rfl, Nat.le_of_ble_eq_true rfl, Nat.le_of_ble_eq_true rfl, Nat.le_of_ble_eq_true rfl, Nat.le_of_ble_eq_true rfl⟩ [0, 1, 2, 4, 5, 6, 7] [3] [1, 2, 3, 0, 4, 5, 6, 7] rfl [(hNWm, .inl (cI, 30, .inl NWMa))] rfl (by decide) [(hNW, .inr (3, [.int NWru, .int NWco, .ref hNWk, .ref hNWt, .ref hNWm, .ref hNWc])), (hNWk, .inl (cI, 30, .inl NWKa)), (hNWt, .inl (cI, 30, .inl NWTa)), (hNWm, .inl (cI, 30, .inl NWMa)), (hNWc, .inl (cI, 24, .inl NWCa)), (hCA, .inr (0, [.ref hNW, .ref hCAo, .ref hCAp])), (hCAo, .inl (cI, 150, .inl CAow)), (hCAp, .inl (cI, 150, .inl CApa))] rfl (by decide) 5 0 rfl rfl rfl rfl rfl (Nat.le_of_ble_eq_true rfl) dX1_moveTo_31 rfl ?_
  refine j_if_eq (tgt := 40) (pc' := 37) cx dX1_moveTo_34 (by decide) rfl (fun ch_4 => ?_) (fun ch_4 => ?_)
  · have h_5 := it_t h_4 ch_4
    refine j_aload_n (pc' := 41) cx 1 dX1_moveTo_40 rfl rfl ?_
    refine j_get (C := RX1) (T := TX1) (N := 3) (pc' := 44) cx uB_X1 5 rfl rfl 0 (by decide) wF_X1_12 (.ref hNW) rfl dX1_moveTo_41 rfl ?_
    refine j_get (C := RX4) (T := TX4) (N := 6) (pc' := 47) cx uB_X4 0 rfl rfl 4 (by decide) wF_X1_32 (.ref hNWm) rfl dX1_moveTo_44 rfl ?_
    refine j_iload_n (pc' := 48) cx 2 dX1_moveTo_47 rfl rfl ?_
    refine j_iload_n (pc' := 49) cx 3 dX1_moveTo_48 rfl rfl ?_
    obtain ⟨i6, h_6⟩ := ck_s h_5
    refine j_iast (ws' := [(hNW, .inr (3, [.int NWru, .int NWco, .ref hNWk, .ref hNWt, .ref hNWm, .ref hNWc])), (hNWk, .inl (cI, 30, .inl NWKa)), (hNWt, .inl (cI, 30, .inl NWTa)), (hNWm, .inl (cI, 30, .inl (upd NWMa p0.toNatClampNeg p1))), (hNWc, .inl (cI, 24, .inl NWCa)), (hCA, .inr (0, [.ref hNW, .ref hCAo, .ref hCAp])), (hCAo, .inl (cI, 150, .inl CAow)), (hCAp, .inl (cI, 150, .inl CApa))]) (pc' := 50) cx 3 0 rfl rfl i6 rfl dX1_moveTo_49 rfl ?_
    refine j_aload_n (pc' := 51) cx 1 dX1_moveTo_50 rfl rfl ?_
    obtain ⟨r7, c8, h_7⟩ := bd_s h_6
    refine j_cV (pc' := 54) cx (c_X1_layOut l D cI cZ cC cS hNW hNWk hNWt hNWm hNWc hCA hCAo hCAp NWru NWco (upd NWMa p0.toNatClampNeg p1) CAow CApa r7 c8) 0 yk_X1_layOut wM_X1_25 ⟨wN_X1_layOut, wS_X1_layOut, wI_X1, wC_X1_layOut⟩ ⟨rfl, rfl, Nat.le_of_ble_eq_true rfl, Nat.le_of_ble_eq_true rfl, Nat.le_of_ble_eq_true rfl, Nat.le_of_ble_eq_true rfl⟩ [0, 3, 5, 6, 7] [1, 2, 4] [3, 0, 1, 4, 2, 5, 6, 7] rfl [(hNWk, .inl (cI, 30, .inl NWKa)), (hNWt, .inl (cI, 30, .inl NWTa)), (hNWc, .inl (cI, 24, .inl NWCa))] rfl (by decide) [(hNW, .inr (3, [.int NWru, .int NWco, .ref hNWk, .ref hNWt, .ref hNWm, .ref hNWc])), (hNWk, .inl (cI, 30, .inl NWKa)), (hNWt, .inl (cI, 30, .inl NWTa)), (hNWm, .inl (cI, 30, .inl (upd NWMa p0.toNatClampNeg p1))), (hNWc, .inl (cI, 24, .inl NWCa)), (hCA, .inr (0, [.ref hNW, .ref hCAo, .ref hCAp])), (hCAo, .inl (cI, 150, .inl r7.1)), (hCAp, .inl (cI, 150, .inl r7.2))] rfl (by decide) 5 0 rfl rfl rfl rfl rfl (Nat.le_of_ble_eq_true rfl) dX1_moveTo_51 rfl ?_
    refine j_iload_n (pc' := 55) cx 0 dX1_moveTo_54 rfl rfl ?_
    have h_8 := so_i h_7
    subst h_8
    exact j_ret cx (Or.inr (Or.inl ⟨_, _, rfl, rfl, dX1_moveTo_55, rfl, rfl⟩)) ⟨rfl, rfl⟩
  · have h_9 := it_f h_4 ch_4
    refine j_bipush (pc' := 39) cx (-4) dX1_moveTo_37 kb_m4 rfl ?_
    have h_10 := so_i h_9
    subst h_10
    exact j_ret cx (Or.inr (Or.inl ⟨_, _, rfl, rfl, dX1_moveTo_39, rfl, rfl⟩)) ⟨rfl, rfl⟩
set_option maxHeartbeats 4000000 in
set_option maxRecDepth 100000 in
theorem c_X1_shiftAll (l : Launch) (D : va_G) (cI cZ cC cS : ClassId) (hNW hNWk hNWt hNWm hNWc hCA hCAo hCAp : Nat) (NWru : Int32) (NWco : Int32) (NWMa : Nat → Int32) (CAow : Nat → Int32) (CApa : Nat → Int32) (p0 : Int32) (p1 : Int32) (out : (Nat → Int32) × (Nat → Int32) × (Nat → Int32)) (hm : f_X1_shiftAll NWco NWMa CAow CApa p0 p1 = some out) : Ct l yX1_shiftAll cX1_shiftAll 4 none ({ frames := 3, cells := 0, slots := 0, locals := 69 }) (D, TY cI cZ cC cS) [.ref hCA, .int p0, .int p1] [(hNW, .inr (3, [.int NWru, .int NWco, .ref hNWk, .ref hNWt, .ref hNWm, .ref hNWc])), (hNWm, .inl (cI, 30, .inl NWMa)), (hCA, .inr (0, [.ref hNW, .ref hCAo, .ref hCAp])), (hCAo, .inl (cI, 150, .inl CAow)), (hCAp, .inl (cI, 150, .inl CApa))] (jw_P none [(hNW, .inr (3, [.int NWru, .int NWco, .ref hNWk, .ref hNWt, .ref hNWm, .ref hNWc])), (hNWm, .inl (cI, 30, .inl out.1)), (hCA, .inr (0, [.ref hNW, .ref hCAo, .ref hCAp])), (hCAo, .inl (cI, 150, .inl out.2.1)), (hCAp, .inl (cI, 150, .inl out.2.2))]) 0 0 := by
  refine ct_of RX1 (by decide +kernel) rfl (Nat.le_of_ble_eq_true rfl) (fun j cx => ?_)
  unfold f_X1_shiftAll at hm
  show j 0 0 [(hNW, .inr (3, [.int NWru, .int NWco, .ref hNWk, .ref hNWt, .ref hNWm, .ref hNWc])), (hNWm, .inl (cI, 30, .inl NWMa)), (hCA, .inr (0, [.ref hNW, .ref hCAo, .ref hCAp])), (hCAo, .inl (cI, 150, .inl CAow)), (hCAp, .inl (cI, 150, .inl CApa))] [(0, .ref hCA), (1, .int p0), (2, .int p1)] 0 []
  refine j_iconst (pc' := 1) cx 0 dX1_shiftAll_0 ki_0 rfl ?_
  refine j_istore_n (lv' := [(3, .int 0), (0, .ref hCA), (1, .int p0), (2, .int p1)]) (pc' := 2) cx dX1_shiftAll_1 (by decide) rfl rfl ?_
  obtain ⟨e2, h_1, h_2⟩ := bd_s hm
  have KXe2 : j 0 0 [(hNW, .inr (3, [.int NWru, .int NWco, .ref hNWk, .ref hNWt, .ref hNWm, .ref hNWc])), (hNWm, .inl (cI, 30, .inl e2.2)), (hCA, .inr (0, [.ref hNW, .ref hCAo, .ref hCAp])), (hCAo, .inl (cI, 150, .inl CAow)), (hCAp, .inl (cI, 150, .inl CApa))] [(0, .ref hCA)] 42 [] := by
    refine j_aload_n (pc' := 43) cx 0 dX1_shiftAll_42 rfl rfl ?_
    obtain ⟨r7, c8, h_3⟩ := bd_s h_2
    refine j_cV (pc' := 46) cx (c_X1_layOut l D cI cZ cC cS hNW hNWk hNWt hNWm hNWc hCA hCAo hCAp NWru NWco e2.2 CAow CApa r7 c8) 0 yk_X1_layOut wM_X1_25 ⟨wN_X1_layOut, wS_X1_layOut, wI_X1, wC_X1_layOut⟩ ⟨rfl, rfl, Nat.le_of_ble_eq_true rfl, Nat.le_of_ble_eq_true rfl, Nat.le_of_ble_eq_true rfl, Nat.le_of_ble_eq_true rfl⟩ [0, 1, 2, 3, 4] [] [0, 1, 2, 3, 4] rfl [] rfl (by decide) [(hNW, .inr (3, [.int NWru, .int NWco, .ref hNWk, .ref hNWt, .ref hNWm, .ref hNWc])), (hNWm, .inl (cI, 30, .inl e2.2)), (hCA, .inr (0, [.ref hNW, .ref hCAo, .ref hCAp])), (hCAo, .inl (cI, 150, .inl r7.1)), (hCAp, .inl (cI, 150, .inl r7.2))] rfl (by decide) 2 0 rfl rfl rfl rfl rfl (Nat.le_of_ble_eq_true rfl) dX1_shiftAll_43 rfl ?_
    have h_4 := so_i h_3
    subst h_4
    exact j_ret cx (Or.inl ⟨rfl, dX1_shiftAll_46, rfl, rfl⟩) ⟨rfl, rfl⟩
  have LPe2 : ∀ (n : Nat) (s1 : Int32 × (Nat → Int32)), lp (f_X1_shiftAll_b1 NWco p0 p1) n s1 = some e2 → j 0 0 [(hNW, .inr (3, [.int NWru, .int NWco, .ref hNWk, .ref hNWt, .ref hNWm, .ref hNWc])), (hNWm, .inl (cI, 30, .inl s1.2)), (hCA, .inr (0, [.ref hNW, .ref hCAo, .ref hCAp])), (hCAo, .inl (cI, 150, .inl CAow)), (hCAp, .inl (cI, 150, .inl CApa))] [(0, .ref hCA), (1, .int p0), (2, .int p1), (3, .int s1.1)] 2 [] := by
    intro n
    induction n with
    | zero => intro s1 z; exact absurd z (by intro z; cases z)
    | succ n ihe2 =>
      intro s1 h_5
      obtain ⟨q_6, h_7, h_8⟩ := bd_s h_5
      unfold f_X1_shiftAll_b1 at h_7
      refine j_iload_n (pc' := 3) cx 3 dX1_shiftAll_2 rfl rfl ?_
      refine j_aload_n (pc' := 4) cx 0 dX1_shiftAll_3 rfl rfl ?_
      refine j_get (C := RX1) (T := TX1) (N := 3) (pc' := 7) cx uB_X1 2 rfl rfl 0 (by decide) wF_X1_12 (.ref hNW) rfl dX1_shiftAll_4 rfl ?_
      refine j_get (C := RX4) (T := TX4) (N := 6) (pc' := 10) cx uB_X4 0 rfl rfl 1 (by decide) wF_X1_28 (.int NWco) rfl dX1_shiftAll_7 rfl ?_
      refine j_icmp_ge (tgt := 42) (pc' := 13) cx dX1_shiftAll_10 (by decide) rfl (fun ch_7 => ?_) (fun ch_7 => ?_)
      · have h_9 := it_t h_7 ch_7
        have h_10 := so_i h_9
        subst h_10
        have h_11 := so_i (se_r h_8)
        subst h_11
        refine j_lv (lv' := [(0, .ref hCA)]) cx [0] rfl ?_
        exact KXe2
      · have h_12 := it_f h_7 ch_7
        refine j_aload_n (pc' := 14) cx 0 dX1_shiftAll_13 rfl rfl ?_
        refine j_get (C := RX1) (T := TX1) (N := 3) (pc' := 17) cx uB_X1 2 rfl rfl 0 (by decide) wF_X1_12 (.ref hNW) rfl dX1_shiftAll_14 rfl ?_
        refine j_get (C := RX4) (T := TX4) (N := 6) (pc' := 20) cx uB_X4 0 rfl rfl 4 (by decide) wF_X1_32 (.ref hNWm) rfl dX1_shiftAll_17 rfl ?_
        refine j_iload_n (pc' := 21) cx 3 dX1_shiftAll_20 rfl rfl ?_
        refine j_aload_n (pc' := 22) cx 0 dX1_shiftAll_21 rfl rfl ?_
        refine j_get (C := RX1) (T := TX1) (N := 3) (pc' := 25) cx uB_X1 2 rfl rfl 0 (by decide) wF_X1_12 (.ref hNW) rfl dX1_shiftAll_22 rfl ?_
        refine j_get (C := RX4) (T := TX4) (N := 6) (pc' := 28) cx uB_X4 0 rfl rfl 4 (by decide) wF_X1_32 (.ref hNWm) rfl dX1_shiftAll_25 rfl ?_
        refine j_iload_n (pc' := 29) cx 3 dX1_shiftAll_28 rfl rfl ?_
        obtain ⟨i3, h_13⟩ := ck_s h_12
        refine j_iald (pc' := 30) cx 1 0 rfl rfl i3 dX1_shiftAll_29 rfl ?_
        refine j_iload_n (pc' := 31) cx 1 dX1_shiftAll_30 rfl rfl ?_
        refine j_iload_n (pc' := 32) cx 2 dX1_shiftAll_31 rfl rfl ?_
        obtain ⟨r4, c5, h_14⟩ := bd_s h_13
        refine j_cS (pc' := 35) cx (c_X0_shifted l D cI cZ cC cS (s1.2 s1.1.toNatClampNeg) p0 p1 r4 c5) 3 yk_X0_shifted wM_X1_72 ⟨wT_X0_shifted, wI_X0, wC_X0_shifted⟩ ⟨rfl, rfl, Nat.le_of_ble_eq_true rfl, Nat.le_of_ble_eq_true rfl, Nat.le_of_ble_eq_true rfl, Nat.le_of_ble_eq_true rfl⟩ [] [0, 1, 2, 3, 4] [0, 1, 2, 3, 4] rfl [(hNW, .inr (3, [.int NWru, .int NWco, .ref hNWk, .ref hNWt, .ref hNWm, .ref hNWc])), (hNWm, .inl (cI, 30, .inl s1.2)), (hCA, .inr (0, [.ref hNW, .ref hCAo, .ref hCAp])), (hCAo, .inl (cI, 150, .inl CAow)), (hCAp, .inl (cI, 150, .inl CApa))] rfl (by decide) [(hNW, .inr (3, [.int NWru, .int NWco, .ref hNWk, .ref hNWt, .ref hNWm, .ref hNWc])), (hNWm, .inl (cI, 30, .inl s1.2)), (hCA, .inr (0, [.ref hNW, .ref hCAo, .ref hCAp])), (hCAo, .inl (cI, 150, .inl CAow)), (hCAp, .inl (cI, 150, .inl CApa))] rfl (by decide) rfl rfl (Nat.le_of_ble_eq_true rfl) dX1_shiftAll_32 rfl ?_
        obtain ⟨i6, h_15⟩ := ck_s h_14
        refine j_iast (ws' := [(hNW, .inr (3, [.int NWru, .int NWco, .ref hNWk, .ref hNWt, .ref hNWm, .ref hNWc])), (hNWm, .inl (cI, 30, .inl (upd s1.2 s1.1.toNatClampNeg r4))), (hCA, .inr (0, [.ref hNW, .ref hCAo, .ref hCAp])), (hCAo, .inl (cI, 150, .inl CAow)), (hCAp, .inl (cI, 150, .inl CApa))]) (pc' := 36) cx 1 0 rfl rfl i6 rfl dX1_shiftAll_35 rfl ?_
        refine j_iinc (v := (s1.1 + 1)) (lv' := [(3, .int (s1.1 + 1)), (0, .ref hCA), (1, .int p0), (2, .int p1)]) (pc' := 39) cx 3 dX1_shiftAll_36 rfl (kn_1 _) (by decide) rfl rfl ?_
        refine j_goto (pc' := 2) cx dX1_shiftAll_39 (by decide) ?_
        have h_16 := so_i h_15
        subst h_16
        refine j_lv (lv' := [(0, .ref hCA), (1, .int p0), (2, .int p1), (3, .int (s1.1 + 1))]) cx [1, 2, 3, 0] rfl ?_
        exact ihe2 _ (se_l h_8)
  refine j_lv (lv' := [(0, .ref hCA), (1, .int p0), (2, .int p1), (3, .int 0)]) cx [1, 2, 3, 0] rfl ?_
  exact LPe2 _ _ h_1
set_option maxHeartbeats 4000000 in
set_option maxRecDepth 100000 in
theorem c_X4_setColour (l : Launch) (D : va_G) (cI cZ cC cS : ClassId) (hST hSTk hSTt hSTm hSTc : Nat) (STru : Int32) (STco : Int32) (STCa : Nat → Int32) (p0 : Int32) (p1 : Int32) (p2 : Int32) (out : (Nat → Int32)) (hm : f_X4_setColour STCa p0 p1 p2 = some out) : Ct l yX4_setColour cX4_setColour 4 none ({ frames := 0, cells := 0, slots := 0, locals := 0 }) (D, TY cI cZ cC cS) [.ref hST, .int p0, .int p1, .int p2] [(hST, .inr (3, [.int STru, .int STco, .ref hSTk, .ref hSTt, .ref hSTm, .ref hSTc])), (hSTc, .inl (cI, 24, .inl STCa))] (jw_P none [(hST, .inr (3, [.int STru, .int STco, .ref hSTk, .ref hSTt, .ref hSTm, .ref hSTc])), (hSTc, .inl (cI, 24, .inl out))]) 0 0 := by
  refine ct_of RX4 (by decide +kernel) rfl (Nat.le_of_ble_eq_true rfl) (fun j cx => ?_)
  unfold f_X4_setColour at hm
  show j 0 0 [(hST, .inr (3, [.int STru, .int STco, .ref hSTk, .ref hSTt, .ref hSTm, .ref hSTc])), (hSTc, .inl (cI, 24, .inl STCa))] [(0, .ref hST), (1, .int p0), (2, .int p1), (3, .int p2)] 0 []
  refine j_aload_n (pc' := 1) cx 0 dX4_setColour_0 rfl rfl ?_
  refine j_get (C := RX4) (T := TX4) (N := 6) (pc' := 4) cx uB_X4 0 rfl rfl 5 (by decide) wF_X4_28 (.ref hSTc) rfl dX4_setColour_1 rfl ?_
  refine j_iconst (pc' := 5) cx 4 dX4_setColour_4 ki_4 rfl ?_
  refine j_iload_n (pc' := 6) cx 1 dX4_setColour_5 rfl rfl ?_
  refine j_imul (pc' := 7) cx dX4_setColour_6 rfl ?_
  refine j_iload_n (pc' := 8) cx 2 dX4_setColour_7 rfl rfl ?_
  refine j_iadd (pc' := 9) cx dX4_setColour_8 rfl ?_
  refine j_iload_n (pc' := 10) cx 3 dX4_setColour_9 rfl rfl ?_
  obtain ⟨i1, h_1⟩ := ck_s hm
  refine j_iast (ws' := [(hST, .inr (3, [.int STru, .int STco, .ref hSTk, .ref hSTt, .ref hSTm, .ref hSTc])), (hSTc, .inl (cI, 24, .inl (upd STCa ((4 * p0) + p1).toNatClampNeg p2)))]) (pc' := 11) cx 1 0 rfl rfl i1 rfl dX4_setColour_10 rfl ?_
  have h_2 := so_i h_1
  subst h_2
  exact j_ret cx (Or.inl ⟨rfl, dX4_setColour_11, rfl, rfl⟩) ⟨rfl, rfl⟩
set_option maxHeartbeats 4000000 in
set_option maxRecDepth 100000 in
theorem c_X1_paintArms (l : Launch) (D : va_G) (cI cZ cC cS : ClassId) (hNW hNWk hNWt hNWm hNWc hPC hCA hCAo hCAp : Nat) (NWru : Int32) (NWco : Int32) (NWKa : Nat → Int32) (NWTa : Nat → Int32) (NWMa : Nat → Int32) (NWCa : Nat → Int32) (PCa : Nat → Int32) (CAow : Nat → Int32) (CApa : Nat → Int32) (p0 : Int32) (out : Int32 × (Nat → Int32)) (hm : f_X1_paintArms NWru NWco NWKa NWTa NWMa NWCa PCa CAow CApa p0 = some out) : Ct l yX1_paintArms cX1_paintArms 4 (some .int) ({ frames := 4, cells := 0, slots := 0, locals := 96 }) (D, TY cI cZ cC cS) [.ref hCA, .int p0, .ref hPC] [(hNW, .inr (3, [.int NWru, .int NWco, .ref hNWk, .ref hNWt, .ref hNWm, .ref hNWc])), (hNWk, .inl (cI, 30, .inl NWKa)), (hNWt, .inl (cI, 30, .inl NWTa)), (hNWm, .inl (cI, 30, .inl NWMa)), (hNWc, .inl (cI, 24, .inl NWCa)), (hPC, .inl (cI, 4, .inl PCa)), (hCA, .inr (0, [.ref hNW, .ref hCAo, .ref hCAp])), (hCAo, .inl (cI, 150, .inl CAow)), (hCAp, .inl (cI, 150, .inl CApa))] (jw_P (some (.int out.1)) [(hNW, .inr (3, [.int NWru, .int NWco, .ref hNWk, .ref hNWt, .ref hNWm, .ref hNWc])), (hNWk, .inl (cI, 30, .inl NWKa)), (hNWt, .inl (cI, 30, .inl NWTa)), (hNWm, .inl (cI, 30, .inl NWMa)), (hNWc, .inl (cI, 24, .inl out.2)), (hPC, .inl (cI, 4, .inl PCa)), (hCA, .inr (0, [.ref hNW, .ref hCAo, .ref hCAp])), (hCAo, .inl (cI, 150, .inl CAow)), (hCAp, .inl (cI, 150, .inl CApa))]) 0 0 := by
  refine ct_of RX1 (by decide +kernel) rfl (Nat.le_of_ble_eq_true rfl) (fun j cx => ?_)
  unfold f_X1_paintArms at hm
  show j 0 0 [(hNW, .inr (3, [.int NWru, .int NWco, .ref hNWk, .ref hNWt, .ref hNWm, .ref hNWc])), (hNWk, .inl (cI, 30, .inl NWKa)), (hNWt, .inl (cI, 30, .inl NWTa)), (hNWm, .inl (cI, 30, .inl NWMa)), (hNWc, .inl (cI, 24, .inl NWCa)), (hPC, .inl (cI, 4, .inl PCa)), (hCA, .inr (0, [.ref hNW, .ref hCAo, .ref hCAp])), (hCAo, .inl (cI, 150, .inl CAow)), (hCAp, .inl (cI, 150, .inl CApa))] [(0, .ref hCA), (1, .int p0), (2, .ref hPC)] 0 []
  refine j_iconst (pc' := 1) cx 0 dX1_paintArms_0 ki_0 rfl ?_
  refine j_istore_n (lv' := [(3, .int 0), (0, .ref hCA), (1, .int p0), (2, .ref hPC)]) (pc' := 2) cx dX1_paintArms_1 (by decide) rfl rfl ?_
  obtain ⟨e2, h_1, h_2⟩ := bd_s hm
  have KXe2 : j 0 0 [(hNW, .inr (3, [.int NWru, .int NWco, .ref hNWk, .ref hNWt, .ref hNWm, .ref hNWc])), (hNWk, .inl (cI, 30, .inl NWKa)), (hNWt, .inl (cI, 30, .inl NWTa)), (hNWm, .inl (cI, 30, .inl NWMa)), (hNWc, .inl (cI, 24, .inl e2.2)), (hPC, .inl (cI, 4, .inl PCa)), (hCA, .inr (0, [.ref hNW, .ref hCAo, .ref hCAp])), (hCAo, .inl (cI, 150, .inl CAow)), (hCAp, .inl (cI, 150, .inl CApa))] [(0, .ref hCA)] 31 [] := by
    refine j_aload_n (pc' := 32) cx 0 dX1_paintArms_31 rfl rfl ?_
    obtain ⟨r6, c7, h_3⟩ := bd_s h_2
    refine j_cV (pc' := 35) cx (c_X1_hasClash l D cI cZ cC cS hNW hNWk hNWt hNWm hNWc hCA hCAo hCAp NWru NWco NWKa NWTa NWMa e2.2 CAow CApa r6 c7) 0 yk_X1_hasClash wM_X1_79 ⟨wN_X1_hasClash, wS_X1_hasClash, wI_X1, wC_X1_hasClash⟩ ⟨rfl, rfl, Nat.le_of_ble_eq_true rfl, Nat.le_of_ble_eq_true rfl, Nat.le_of_ble_eq_true rfl, Nat.le_of_ble_eq_true rfl⟩ [0, 1, 2, 3, 4, 6, 7, 8] [5] [1, 2, 3, 4, 5, 0, 6, 7, 8] rfl [(hPC, .inl (cI, 4, .inl PCa))] rfl (by decide) [(hNW, .inr (3, [.int NWru, .int NWco, .ref hNWk, .ref hNWt, .ref hNWm, .ref hNWc])), (hNWk, .inl (cI, 30, .inl NWKa)), (hNWt, .inl (cI, 30, .inl NWTa)), (hNWm, .inl (cI, 30, .inl NWMa)), (hNWc, .inl (cI, 24, .inl e2.2)), (hPC, .inl (cI, 4, .inl PCa)), (hCA, .inr (0, [.ref hNW, .ref hCAo, .ref hCAp])), (hCAo, .inl (cI, 150, .inl CAow)), (hCAp, .inl (cI, 150, .inl CApa))] rfl (by decide) 6 0 rfl rfl rfl rfl rfl (Nat.le_of_ble_eq_true rfl) dX1_paintArms_32 rfl ?_
    obtain ⟨t8, h_5, h_4⟩ := bd_s h_3
    have Kt8 : j 0 0 [(hNW, .inr (3, [.int NWru, .int NWco, .ref hNWk, .ref hNWt, .ref hNWm, .ref hNWc])), (hNWk, .inl (cI, 30, .inl NWKa)), (hNWt, .inl (cI, 30, .inl NWTa)), (hNWm, .inl (cI, 30, .inl NWMa)), (hNWc, .inl (cI, 24, .inl e2.2)), (hPC, .inl (cI, 4, .inl PCa)), (hCA, .inr (0, [.ref hNW, .ref hCAo, .ref hCAp])), (hCAo, .inl (cI, 150, .inl CAow)), (hCAp, .inl (cI, 150, .inl CApa))] [] 44 [.int t8] := by
      have h_6 := so_i h_4
      subst h_6
      exact j_ret cx (Or.inr (Or.inl ⟨_, _, rfl, rfl, dX1_paintArms_44, rfl, rfl⟩)) ⟨rfl, rfl⟩
    refine j_if_eq (tgt := 43) (pc' := 38) cx dX1_paintArms_35 (by decide) rfl (fun ch_5 => ?_) (fun ch_5 => ?_)
    · have h_7 := it_t h_5 ch_5
      refine j_iconst (pc' := 44) cx 0 dX1_paintArms_43 ki_0 rfl ?_
      have h_8 := so_i h_7
      subst h_8
      refine j_lv (lv' := []) cx [] rfl ?_
      exact Kt8
    · have h_9 := it_f h_5 ch_5
      refine j_bipush (pc' := 40) cx (-4) dX1_paintArms_38 kb_m4 rfl ?_
      refine j_goto (pc' := 44) cx dX1_paintArms_40 (by decide) ?_
      have h_10 := so_i h_9
      subst h_10
      refine j_lv (lv' := []) cx [] rfl ?_
      exact Kt8
  have LPe2 : ∀ (n : Nat) (s1 : Int32 × (Nat → Int32)), lp (f_X1_paintArms_b1 PCa p0) n s1 = some e2 → j 0 0 [(hNW, .inr (3, [.int NWru, .int NWco, .ref hNWk, .ref hNWt, .ref hNWm, .ref hNWc])), (hNWk, .inl (cI, 30, .inl NWKa)), (hNWt, .inl (cI, 30, .inl NWTa)), (hNWm, .inl (cI, 30, .inl NWMa)), (hNWc, .inl (cI, 24, .inl s1.2)), (hPC, .inl (cI, 4, .inl PCa)), (hCA, .inr (0, [.ref hNW, .ref hCAo, .ref hCAp])), (hCAo, .inl (cI, 150, .inl CAow)), (hCAp, .inl (cI, 150, .inl CApa))] [(0, .ref hCA), (1, .int p0), (2, .ref hPC), (3, .int s1.1)] 2 [] := by
    intro n
    induction n with
    | zero => intro s1 z; exact absurd z (by intro z; cases z)
    | succ n ihe2 =>
      intro s1 h_11
      obtain ⟨q_12, h_13, h_14⟩ := bd_s h_11
      unfold f_X1_paintArms_b1 at h_13
      refine j_iload_n (pc' := 3) cx 3 dX1_paintArms_2 rfl rfl ?_
      refine j_iconst (pc' := 4) cx 4 dX1_paintArms_3 ki_4 rfl ?_
      refine j_icmp_ge (tgt := 31) (pc' := 7) cx dX1_paintArms_4 (by decide) rfl (fun ch_13 => ?_) (fun ch_13 => ?_)
      · have h_15 := it_t h_13 ch_13
        have h_16 := so_i h_15
        subst h_16
        have h_17 := so_i (se_r h_14)
        subst h_17
        refine j_lv (lv' := [(0, .ref hCA)]) cx [0] rfl ?_
        exact KXe2
      · have h_18 := it_f h_13 ch_13
        refine j_iload_n (pc' := 8) cx 3 dX1_paintArms_7 rfl rfl ?_
        refine j_aload_n (pc' := 9) cx 2 dX1_paintArms_8 rfl rfl ?_
        refine j_alen (pc' := 10) cx 5 0 rfl rfl 4 kl_4 dX1_paintArms_9 rfl ?_
        refine j_icmp_ge (tgt := 31) (pc' := 13) cx dX1_paintArms_10 (by decide) rfl (fun ch_18 => ?_) (fun ch_18 => ?_)
        · have h_19 := it_t h_18 ch_18
          have h_20 := so_i h_19
          subst h_20
          have h_21 := so_i (se_r h_14)
          subst h_21
          refine j_lv (lv' := [(0, .ref hCA)]) cx [0] rfl ?_
          exact KXe2
        · have h_22 := it_f h_18 ch_18
          refine j_aload_n (pc' := 14) cx 0 dX1_paintArms_13 rfl rfl ?_
          refine j_get (C := RX1) (T := TX1) (N := 3) (pc' := 17) cx uB_X1 6 rfl rfl 0 (by decide) wF_X1_12 (.ref hNW) rfl dX1_paintArms_14 rfl ?_
          refine j_iload_n (pc' := 18) cx 1 dX1_paintArms_17 rfl rfl ?_
          refine j_iload_n (pc' := 19) cx 3 dX1_paintArms_18 rfl rfl ?_
          refine j_aload_n (pc' := 20) cx 2 dX1_paintArms_19 rfl rfl ?_
          refine j_iload_n (pc' := 21) cx 3 dX1_paintArms_20 rfl rfl ?_
          obtain ⟨i3, h_23⟩ := ck_s h_22
          refine j_iald (pc' := 22) cx 5 0 rfl rfl i3 dX1_paintArms_21 rfl ?_
          obtain ⟨r4, c5, h_24⟩ := bd_s h_23
          refine j_cV (pc' := 25) cx (c_X4_setColour l D cI cZ cC cS hNW hNWk hNWt hNWm hNWc NWru NWco s1.2 p0 s1.1 (PCa s1.1.toNatClampNeg) r4 c5) 3 yk_X4_setColour wM_X1_75 ⟨wN_X4_setColour, wS_X4_setColour, wI_X4, wC_X4_setColour⟩ ⟨rfl, rfl, Nat.le_of_ble_eq_true rfl, Nat.le_of_ble_eq_true rfl, Nat.le_of_ble_eq_true rfl, Nat.le_of_ble_eq_true rfl⟩ [0, 4] [1, 2, 3, 5, 6, 7, 8] [7, 0, 1, 2, 8, 3, 4, 5, 6] rfl [(hNWk, .inl (cI, 30, .inl NWKa)), (hNWt, .inl (cI, 30, .inl NWTa)), (hNWm, .inl (cI, 30, .inl NWMa)), (hPC, .inl (cI, 4, .inl PCa)), (hCA, .inr (0, [.ref hNW, .ref hCAo, .ref hCAp])), (hCAo, .inl (cI, 150, .inl CAow)), (hCAp, .inl (cI, 150, .inl CApa))] rfl (by decide) [(hNW, .inr (3, [.int NWru, .int NWco, .ref hNWk, .ref hNWt, .ref hNWm, .ref hNWc])), (hNWk, .inl (cI, 30, .inl NWKa)), (hNWt, .inl (cI, 30, .inl NWTa)), (hNWm, .inl (cI, 30, .inl NWMa)), (hNWc, .inl (cI, 24, .inl r4)), (hPC, .inl (cI, 4, .inl PCa)), (hCA, .inr (0, [.ref hNW, .ref hCAo, .ref hCAp])), (hCAo, .inl (cI, 150, .inl CAow)), (hCAp, .inl (cI, 150, .inl CApa))] rfl (by decide) 0 3 rfl rfl rfl rfl rfl (Nat.le_of_ble_eq_true rfl) dX1_paintArms_22 rfl ?_
          refine j_iinc (v := (s1.1 + 1)) (lv' := [(3, .int (s1.1 + 1)), (0, .ref hCA), (1, .int p0), (2, .ref hPC)]) (pc' := 28) cx 3 dX1_paintArms_25 rfl (kn_1 _) (by decide) rfl rfl ?_
          refine j_goto (pc' := 2) cx dX1_paintArms_28 (by decide) ?_
          have h_25 := so_i h_24
          subst h_25
          refine j_lv (lv' := [(0, .ref hCA), (1, .int p0), (2, .ref hPC), (3, .int (s1.1 + 1))]) cx [1, 2, 3, 0] rfl ?_
          exact ihe2 _ (se_l h_14)
  refine j_lv (lv' := [(0, .ref hCA), (1, .int p0), (2, .ref hPC), (3, .int 0)]) cx [1, 2, 3, 0] rfl ?_
  exact LPe2 _ _ h_1
set_option maxHeartbeats 4000000 in
set_option maxRecDepth 100000 in
theorem c_X4_copyFrom (l : Launch) (D : va_G) (cI cZ cC cS : ClassId) (hST hSTk hSTt hSTm hSTc hOT hOTk hOTt hOTm hOTc : Nat) (STru : Int32) (STco : Int32) (STKa : Nat → Int32) (STTa : Nat → Int32) (STMa : Nat → Int32) (STCa : Nat → Int32) (OTru : Int32) (OTco : Int32) (OTKa : Nat → Int32) (OTTa : Nat → Int32) (OTMa : Nat → Int32) (OTCa : Nat → Int32) (out : Int32 × Int32 × (Nat → Int32) × (Nat → Int32) × (Nat → Int32) × (Nat → Int32)) (hm : f_X4_copyFrom STru STco STKa STTa STMa STCa OTru OTco OTKa OTTa OTMa OTCa = some out) : Ct l yX4_copyFrom cX4_copyFrom 2 none ({ frames := 1, cells := 0, slots := 0, locals := 48 }) (D, TY cI cZ cC cS) [.ref hST, .ref hOT] [(hST, .inr (3, [.int STru, .int STco, .ref hSTk, .ref hSTt, .ref hSTm, .ref hSTc])), (hSTk, .inl (cI, 30, .inl STKa)), (hSTt, .inl (cI, 30, .inl STTa)), (hSTm, .inl (cI, 30, .inl STMa)), (hSTc, .inl (cI, 24, .inl STCa)), (hOT, .inr (3, [.int OTru, .int OTco, .ref hOTk, .ref hOTt, .ref hOTm, .ref hOTc])), (hOTk, .inl (cI, 30, .inl OTKa)), (hOTt, .inl (cI, 30, .inl OTTa)), (hOTm, .inl (cI, 30, .inl OTMa)), (hOTc, .inl (cI, 24, .inl OTCa))] (jw_P none [(hST, .inr (3, [.int out.1, .int out.2.1, .ref hSTk, .ref hSTt, .ref hSTm, .ref hSTc])), (hSTk, .inl (cI, 30, .inl out.2.2.1)), (hSTt, .inl (cI, 30, .inl out.2.2.2.1)), (hSTm, .inl (cI, 30, .inl out.2.2.2.2.1)), (hSTc, .inl (cI, 24, .inl out.2.2.2.2.2)), (hOT, .inr (3, [.int OTru, .int OTco, .ref hOTk, .ref hOTt, .ref hOTm, .ref hOTc])), (hOTk, .inl (cI, 30, .inl OTKa)), (hOTt, .inl (cI, 30, .inl OTTa)), (hOTm, .inl (cI, 30, .inl OTMa)), (hOTc, .inl (cI, 24, .inl OTCa))]) 0 0 := by
  refine ct_of RX4 (by decide +kernel) rfl (Nat.le_of_ble_eq_true rfl) (fun j cx => ?_)
  unfold f_X4_copyFrom at hm
  show j 0 0 [(hST, .inr (3, [.int STru, .int STco, .ref hSTk, .ref hSTt, .ref hSTm, .ref hSTc])), (hSTk, .inl (cI, 30, .inl STKa)), (hSTt, .inl (cI, 30, .inl STTa)), (hSTm, .inl (cI, 30, .inl STMa)), (hSTc, .inl (cI, 24, .inl STCa)), (hOT, .inr (3, [.int OTru, .int OTco, .ref hOTk, .ref hOTt, .ref hOTm, .ref hOTc])), (hOTk, .inl (cI, 30, .inl OTKa)), (hOTt, .inl (cI, 30, .inl OTTa)), (hOTm, .inl (cI, 30, .inl OTMa)), (hOTc, .inl (cI, 24, .inl OTCa))] [(0, .ref hST), (1, .ref hOT)] 0 []
  refine j_aload_n (pc' := 1) cx 0 dX4_copyFrom_0 rfl rfl ?_
  refine j_aload_n (pc' := 2) cx 1 dX4_copyFrom_1 rfl rfl ?_
  refine j_get (C := RX4) (T := TX4) (N := 6) (pc' := 5) cx uB_X4 5 rfl rfl 0 (by decide) wF_X4_9 (.int OTru) rfl dX4_copyFrom_2 rfl ?_
  refine j_put (C := RX4) (T := TX4) (N := 6) (ws' := [(hST, .inr (3, [.int OTru, .int STco, .ref hSTk, .ref hSTt, .ref hSTm, .ref hSTc])), (hSTk, .inl (cI, 30, .inl STKa)), (hSTt, .inl (cI, 30, .inl STTa)), (hSTm, .inl (cI, 30, .inl STMa)), (hSTc, .inl (cI, 24, .inl STCa)), (hOT, .inr (3, [.int OTru, .int OTco, .ref hOTk, .ref hOTt, .ref hOTm, .ref hOTc])), (hOTk, .inl (cI, 30, .inl OTKa)), (hOTt, .inl (cI, 30, .inl OTTa)), (hOTm, .inl (cI, 30, .inl OTMa)), (hOTc, .inl (cI, 24, .inl OTCa))]) (pc' := 8) cx uB_X4 tyX4 tyX4_ok nmX4 0 rfl rfl 0 (by decide) wF_X4_9 rfl rfl rfl (Nat.le_of_ble_eq_true rfl) rfl dX4_copyFrom_5 rfl ?_
  refine j_aload_n (pc' := 9) cx 0 dX4_copyFrom_8 rfl rfl ?_
  refine j_aload_n (pc' := 10) cx 1 dX4_copyFrom_9 rfl rfl ?_
  refine j_get (C := RX4) (T := TX4) (N := 6) (pc' := 13) cx uB_X4 5 rfl rfl 1 (by decide) wF_X4_15 (.int OTco) rfl dX4_copyFrom_10 rfl ?_
  refine j_put (C := RX4) (T := TX4) (N := 6) (ws' := [(hST, .inr (3, [.int OTru, .int OTco, .ref hSTk, .ref hSTt, .ref hSTm, .ref hSTc])), (hSTk, .inl (cI, 30, .inl STKa)), (hSTt, .inl (cI, 30, .inl STTa)), (hSTm, .inl (cI, 30, .inl STMa)), (hSTc, .inl (cI, 24, .inl STCa)), (hOT, .inr (3, [.int OTru, .int OTco, .ref hOTk, .ref hOTt, .ref hOTm, .ref hOTc])), (hOTk, .inl (cI, 30, .inl OTKa)), (hOTt, .inl (cI, 30, .inl OTTa)), (hOTm, .inl (cI, 30, .inl OTMa)), (hOTc, .inl (cI, 24, .inl OTCa))]) (pc' := 16) cx uB_X4 tyX4 tyX4_ok nmX4 0 rfl rfl 1 (by decide) wF_X4_15 rfl rfl rfl (Nat.le_of_ble_eq_true rfl) rfl dX4_copyFrom_13 rfl ?_
  refine j_aload_n (pc' := 17) cx 1 dX4_copyFrom_16 rfl rfl ?_
  refine j_get (C := RX4) (T := TX4) (N := 6) (pc' := 20) cx uB_X4 5 rfl rfl 2 (by decide) wF_X4_18 (.ref hOTk) rfl dX4_copyFrom_17 rfl ?_
  refine j_iconst (pc' := 21) cx 0 dX4_copyFrom_20 ki_0 rfl ?_
  refine j_aload_n (pc' := 22) cx 0 dX4_copyFrom_21 rfl rfl ?_
  refine j_get (C := RX4) (T := TX4) (N := 6) (pc' := 25) cx uB_X4 0 rfl rfl 2 (by decide) wF_X4_18 (.ref hSTk) rfl dX4_copyFrom_22 rfl ?_
  refine j_iconst (pc' := 26) cx 0 dX4_copyFrom_25 ki_0 rfl ?_
  refine j_bipush (pc' := 28) cx 30 dX4_copyFrom_26 kb_30 rfl ?_
  refine j_acopy (ws' := [(hST, .inr (3, [.int OTru, .int OTco, .ref hSTk, .ref hSTt, .ref hSTm, .ref hSTc])), (hSTk, .inl (cI, 30, .inl (va_cpy OTKa STKa (0 : Int32).toNatClampNeg (0 : Int32).toNatClampNeg (30 : Int32).toNatClampNeg))), (hSTt, .inl (cI, 30, .inl STTa)), (hSTm, .inl (cI, 30, .inl STMa)), (hSTc, .inl (cI, 24, .inl STCa)), (hOT, .inr (3, [.int OTru, .int OTco, .ref hOTk, .ref hOTt, .ref hOTm, .ref hOTc])), (hOTk, .inl (cI, 30, .inl OTKa)), (hOTt, .inl (cI, 30, .inl OTTa)), (hOTm, .inl (cI, 30, .inl OTMa)), (hOTc, .inl (cI, 24, .inl OTCa))]) (pc' := 31) cx wM_X4_31 6 1 0 rfl rfl rfl rfl (by decide +kernel) ⟨Nat.le_of_ble_eq_true rfl, Nat.le_of_ble_eq_true rfl⟩ rfl dX4_copyFrom_28 rfl ?_
  refine j_aload_n (pc' := 32) cx 1 dX4_copyFrom_31 rfl rfl ?_
  refine j_get (C := RX4) (T := TX4) (N := 6) (pc' := 35) cx uB_X4 5 rfl rfl 3 (by decide) wF_X4_22 (.ref hOTt) rfl dX4_copyFrom_32 rfl ?_
  refine j_iconst (pc' := 36) cx 0 dX4_copyFrom_35 ki_0 rfl ?_
  refine j_aload_n (pc' := 37) cx 0 dX4_copyFrom_36 rfl rfl ?_
  refine j_get (C := RX4) (T := TX4) (N := 6) (pc' := 40) cx uB_X4 0 rfl rfl 3 (by decide) wF_X4_22 (.ref hSTt) rfl dX4_copyFrom_37 rfl ?_
  refine j_iconst (pc' := 41) cx 0 dX4_copyFrom_40 ki_0 rfl ?_
  refine j_bipush (pc' := 43) cx 30 dX4_copyFrom_41 kb_30 rfl ?_
  refine j_acopy (ws' := [(hST, .inr (3, [.int OTru, .int OTco, .ref hSTk, .ref hSTt, .ref hSTm, .ref hSTc])), (hSTk, .inl (cI, 30, .inl (va_cpy OTKa STKa (0 : Int32).toNatClampNeg (0 : Int32).toNatClampNeg (30 : Int32).toNatClampNeg))), (hSTt, .inl (cI, 30, .inl (va_cpy OTTa STTa (0 : Int32).toNatClampNeg (0 : Int32).toNatClampNeg (30 : Int32).toNatClampNeg))), (hSTm, .inl (cI, 30, .inl STMa)), (hSTc, .inl (cI, 24, .inl STCa)), (hOT, .inr (3, [.int OTru, .int OTco, .ref hOTk, .ref hOTt, .ref hOTm, .ref hOTc])), (hOTk, .inl (cI, 30, .inl OTKa)), (hOTt, .inl (cI, 30, .inl OTTa)), (hOTm, .inl (cI, 30, .inl OTMa)), (hOTc, .inl (cI, 24, .inl OTCa))]) (pc' := 46) cx wM_X4_31 7 2 0 rfl rfl rfl rfl (by decide +kernel) ⟨Nat.le_of_ble_eq_true rfl, Nat.le_of_ble_eq_true rfl⟩ rfl dX4_copyFrom_43 rfl ?_
  refine j_aload_n (pc' := 47) cx 1 dX4_copyFrom_46 rfl rfl ?_
  refine j_get (C := RX4) (T := TX4) (N := 6) (pc' := 50) cx uB_X4 5 rfl rfl 4 (by decide) wF_X4_25 (.ref hOTm) rfl dX4_copyFrom_47 rfl ?_
  refine j_iconst (pc' := 51) cx 0 dX4_copyFrom_50 ki_0 rfl ?_
  refine j_aload_n (pc' := 52) cx 0 dX4_copyFrom_51 rfl rfl ?_
  refine j_get (C := RX4) (T := TX4) (N := 6) (pc' := 55) cx uB_X4 0 rfl rfl 4 (by decide) wF_X4_25 (.ref hSTm) rfl dX4_copyFrom_52 rfl ?_
  refine j_iconst (pc' := 56) cx 0 dX4_copyFrom_55 ki_0 rfl ?_
  refine j_bipush (pc' := 58) cx 30 dX4_copyFrom_56 kb_30 rfl ?_
  refine j_acopy (ws' := [(hST, .inr (3, [.int OTru, .int OTco, .ref hSTk, .ref hSTt, .ref hSTm, .ref hSTc])), (hSTk, .inl (cI, 30, .inl (va_cpy OTKa STKa (0 : Int32).toNatClampNeg (0 : Int32).toNatClampNeg (30 : Int32).toNatClampNeg))), (hSTt, .inl (cI, 30, .inl (va_cpy OTTa STTa (0 : Int32).toNatClampNeg (0 : Int32).toNatClampNeg (30 : Int32).toNatClampNeg))), (hSTm, .inl (cI, 30, .inl (va_cpy OTMa STMa (0 : Int32).toNatClampNeg (0 : Int32).toNatClampNeg (30 : Int32).toNatClampNeg))), (hSTc, .inl (cI, 24, .inl STCa)), (hOT, .inr (3, [.int OTru, .int OTco, .ref hOTk, .ref hOTt, .ref hOTm, .ref hOTc])), (hOTk, .inl (cI, 30, .inl OTKa)), (hOTt, .inl (cI, 30, .inl OTTa)), (hOTm, .inl (cI, 30, .inl OTMa)), (hOTc, .inl (cI, 24, .inl OTCa))]) (pc' := 61) cx wM_X4_31 8 3 0 rfl rfl rfl rfl (by decide +kernel) ⟨Nat.le_of_ble_eq_true rfl, Nat.le_of_ble_eq_true rfl⟩ rfl dX4_copyFrom_58 rfl ?_
  refine j_aload_n (pc' := 62) cx 1 dX4_copyFrom_61 rfl rfl ?_
  refine j_get (C := RX4) (T := TX4) (N := 6) (pc' := 65) cx uB_X4 5 rfl rfl 5 (by decide) wF_X4_28 (.ref hOTc) rfl dX4_copyFrom_62 rfl ?_
  refine j_iconst (pc' := 66) cx 0 dX4_copyFrom_65 ki_0 rfl ?_
  refine j_aload_n (pc' := 67) cx 0 dX4_copyFrom_66 rfl rfl ?_
  refine j_get (C := RX4) (T := TX4) (N := 6) (pc' := 70) cx uB_X4 0 rfl rfl 5 (by decide) wF_X4_28 (.ref hSTc) rfl dX4_copyFrom_67 rfl ?_
  refine j_iconst (pc' := 71) cx 0 dX4_copyFrom_70 ki_0 rfl ?_
  refine j_bipush (pc' := 73) cx 24 dX4_copyFrom_71 kb_24 rfl ?_
  refine j_acopy (ws' := [(hST, .inr (3, [.int OTru, .int OTco, .ref hSTk, .ref hSTt, .ref hSTm, .ref hSTc])), (hSTk, .inl (cI, 30, .inl (va_cpy OTKa STKa (0 : Int32).toNatClampNeg (0 : Int32).toNatClampNeg (30 : Int32).toNatClampNeg))), (hSTt, .inl (cI, 30, .inl (va_cpy OTTa STTa (0 : Int32).toNatClampNeg (0 : Int32).toNatClampNeg (30 : Int32).toNatClampNeg))), (hSTm, .inl (cI, 30, .inl (va_cpy OTMa STMa (0 : Int32).toNatClampNeg (0 : Int32).toNatClampNeg (30 : Int32).toNatClampNeg))), (hSTc, .inl (cI, 24, .inl (va_cpy OTCa STCa (0 : Int32).toNatClampNeg (0 : Int32).toNatClampNeg (24 : Int32).toNatClampNeg))), (hOT, .inr (3, [.int OTru, .int OTco, .ref hOTk, .ref hOTt, .ref hOTm, .ref hOTc])), (hOTk, .inl (cI, 30, .inl OTKa)), (hOTt, .inl (cI, 30, .inl OTTa)), (hOTm, .inl (cI, 30, .inl OTMa)), (hOTc, .inl (cI, 24, .inl OTCa))]) (pc' := 76) cx wM_X4_31 9 4 0 rfl rfl rfl rfl (by decide +kernel) ⟨Nat.le_of_ble_eq_true rfl, Nat.le_of_ble_eq_true rfl⟩ rfl dX4_copyFrom_73 rfl ?_
  have h_1 := so_i hm
  subst h_1
  exact j_ret cx (Or.inl ⟨rfl, dX4_copyFrom_76, rfl, rfl⟩) ⟨rfl, rfl⟩
set_option maxHeartbeats 4000000 in
set_option maxRecDepth 100000 in
theorem c_X4_colourOf (l : Launch) (D : va_G) (cI cZ cC cS : ClassId) (hST hSTk hSTt hSTm hSTc : Nat) (STru : Int32) (STco : Int32) (STCa : Nat → Int32) (p0 : Int32) (p1 : Int32) (out : Int32) (hm : f_X4_colourOf STCa p0 p1 = some out) : Ct l yX4_colourOf cX4_colourOf 3 (some .int) ({ frames := 0, cells := 0, slots := 0, locals := 0 }) (D, TY cI cZ cC cS) [.ref hST, .int p0, .int p1] [(hST, .inr (3, [.int STru, .int STco, .ref hSTk, .ref hSTt, .ref hSTm, .ref hSTc])), (hSTc, .inl (cI, 24, .inl STCa))] (jw_P (some (.int out)) [(hST, .inr (3, [.int STru, .int STco, .ref hSTk, .ref hSTt, .ref hSTm, .ref hSTc])), (hSTc, .inl (cI, 24, .inl STCa))]) 0 0 := by
  refine ct_of RX4 (by decide +kernel) rfl (Nat.le_of_ble_eq_true rfl) (fun j cx => ?_)
  unfold f_X4_colourOf at hm
  show j 0 0 [(hST, .inr (3, [.int STru, .int STco, .ref hSTk, .ref hSTt, .ref hSTm, .ref hSTc])), (hSTc, .inl (cI, 24, .inl STCa))] [(0, .ref hST), (1, .int p0), (2, .int p1)] 0 []
  refine j_aload_n (pc' := 1) cx 0 dX4_colourOf_0 rfl rfl ?_
  refine j_get (C := RX4) (T := TX4) (N := 6) (pc' := 4) cx uB_X4 0 rfl rfl 5 (by decide) wF_X4_28 (.ref hSTc) rfl dX4_colourOf_1 rfl ?_
  refine j_iconst (pc' := 5) cx 4 dX4_colourOf_4 ki_4 rfl ?_
  refine j_iload_n (pc' := 6) cx 1 dX4_colourOf_5 rfl rfl ?_
  refine j_imul (pc' := 7) cx dX4_colourOf_6 rfl ?_
  refine j_iload_n (pc' := 8) cx 2 dX4_colourOf_7 rfl rfl ?_
  refine j_iadd (pc' := 9) cx dX4_colourOf_8 rfl ?_
  obtain ⟨i1, h_1⟩ := ck_s hm
  refine j_iald (pc' := 10) cx 1 0 rfl rfl i1 dX4_colourOf_9 rfl ?_
  have h_2 := so_i h_1
  subst h_2
  exact j_ret cx (Or.inr (Or.inl ⟨_, _, rfl, rfl, dX4_colourOf_10, rfl, rfl⟩)) ⟨rfl, rfl⟩
