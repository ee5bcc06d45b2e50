set_option maxHeartbeats 4000000 in
set_option maxRecDepth 100000 in
theorem c_X5_freeCellsBeside (l : Launch) (D : va_G) (cI cZ cC cS : ClassId) (hNW hCA hCAo hCAp hSV hSVr hSVq hSVm : Nat) (CAow : Nat → Int32) (p0 : Int32) (out : Int32) (hm : f_X5_freeCellsBeside CAow p0 = some out) : Ct l yX5_freeCellsBeside cX5_freeCellsBeside 4 (some .int) ({ frames := 2, cells := 0, slots := 0, locals := 45 }) (D, TY cI cZ cC cS) [.ref hSV, .int p0] [(hCA, .inr (0, [.ref hNW, .ref hCAo, .ref hCAp])), (hCAo, .inl (cI, 150, .inl CAow)), (hSV, .inr (4, [.ref hCA, .ref hSVr, .ref hSVq, .ref hSVm]))] (jw_P (some (.int out)) [(hCA, .inr (0, [.ref hNW, .ref hCAo, .ref hCAp])), (hCAo, .inl (cI, 150, .inl CAow)), (hSV, .inr (4, [.ref hCA, .ref hSVr, .ref hSVq, .ref hSVm]))]) 0 0 := by
  refine ct_of RX5 (by decide +kernel) rfl (Nat.le_of_ble_eq_true rfl) (fun j cx => ?_)
  unfold f_X5_freeCellsBeside at hm
  show j 0 0 [(hCA, .inr (0, [.ref hNW, .ref hCAo, .ref hCAp])), (hCAo, .inl (cI, 150, .inl CAow)), (hSV, .inr (4, [.ref hCA, .ref hSVr, .ref hSVq, .ref hSVm]))] [(0, .ref hSV), (1, .int p0)] 0 []
  refine j_iconst (pc' := 1) cx 0 dX5_freeCellsBeside_0 ki_0 rfl ?_
  refine j_istore_n (lv' := [(2, .int 0), (0, .ref hSV), (1, .int p0)]) (pc' := 2) cx dX5_freeCellsBeside_1 (by decide) rfl rfl ?_
  refine j_iconst (pc' := 3) cx 0 dX5_freeCellsBeside_2 ki_0 rfl ?_
  refine j_istore_n (lv' := [(3, .int 0), (2, .int 0), (0, .ref hSV), (1, .int p0)]) (pc' := 4) cx dX5_freeCellsBeside_3 (by decide) rfl rfl ?_
  obtain ⟨e2, h_1, h_2⟩ := bd_s hm
  have KXe2 : j 0 0 [(hCA, .inr (0, [.ref hNW, .ref hCAo, .ref hCAp])), (hCAo, .inl (cI, 150, .inl CAow)), (hSV, .inr (4, [.ref hCA, .ref hSVr, .ref hSVq, .ref hSVm]))] [(2, .int e2.1)] 33 [] := by
    refine j_iload_n (pc' := 34) cx 0 dX5_freeCellsBeside_33 rfl rfl ?_
    have h_3 := so_i h_2
    subst h_3
    exact j_ret cx (Or.inr (Or.inl ⟨_, _, rfl, rfl, dX5_freeCellsBeside_34, rfl, rfl⟩)) ⟨rfl, rfl⟩
  have LPe2 : ∀ (n : Nat) (s1 : Int32 × Int32), lp (f_X5_freeCellsBeside_b1 CAow p0) n s1 = some e2 → j 0 0 [(hCA, .inr (0, [.ref hNW, .ref hCAo, .ref hCAp])), (hCAo, .inl (cI, 150, .inl CAow)), (hSV, .inr (4, [.ref hCA, .ref hSVr, .ref hSVq, .ref hSVm]))] [(0, .ref hSV), (1, .int p0), (2, .int s1.1), (3, .int s1.2)] 4 [] := by
    intro n
    induction n with
    | zero => intro s1 z; exact absurd z (by intro z; cases z)
    | succ n ihe2 =>
      intro s1 h_4
      obtain ⟨q_5, h_6, h_7⟩ := bd_s h_4
      unfold f_X5_freeCellsBeside_b1 at h_6
      refine j_iload_n (pc' := 5) cx 3 dX5_freeCellsBeside_4 rfl rfl ?_
      refine j_iconst (pc' := 6) cx 4 dX5_freeCellsBeside_5 ki_4 rfl ?_
      refine j_icmp_ge (tgt := 33) (pc' := 9) cx dX5_freeCellsBeside_6 (by decide) rfl (fun ch_6 => ?_) (fun ch_6 => ?_)
      · have h_8 := it_t h_6 ch_6
        have h_9 := so_i h_8
        subst h_9
        have h_10 := so_i (se_r h_7)
        subst h_10
        refine j_lv (lv' := [(2, .int s1.1)]) cx [2] rfl ?_
        exact KXe2
      · have h_11 := it_f h_6 ch_6
        refine j_aload_n (pc' := 10) cx 0 dX5_freeCellsBeside_9 rfl rfl ?_
        refine j_get (C := RX5) (T := TX5) (N := 4) (pc' := 13) cx uB_X5 2 rfl rfl 0 (by decide) wF_X5_12 (.ref hCA) rfl dX5_freeCellsBeside_10 rfl ?_
        refine j_iload_n (pc' := 14) cx 1 dX5_freeCellsBeside_13 rfl rfl ?_
        refine j_iload_n (pc' := 15) cx 3 dX5_freeCellsBeside_14 rfl rfl ?_
        obtain ⟨r3, c4, h_12⟩ := bd_s h_11
        refine j_cS (pc' := 18) cx (c_X0_beside l D cI cZ cC cS p0 s1.2 r3 c4) 2 yk_X0_beside wM_X5_29 ⟨wT_X0_beside, wI_X0, wC_X0_beside⟩ ⟨rfl, rfl, Nat.le_of_ble_eq_true rfl, Nat.le_of_ble_eq_true rfl, Nat.le_of_ble_eq_true rfl, Nat.le_of_ble_eq_true rfl⟩ [] [0, 1, 2] [0, 1, 2] rfl [(hCA, .inr (0, [.ref hNW, .ref hCAo, .ref hCAp])), (hCAo, .inl (cI, 150, .inl CAow)), (hSV, .inr (4, [.ref hCA, .ref hSVr, .ref hSVq, .ref hSVm]))] rfl (by decide) [(hCA, .inr (0, [.ref hNW, .ref hCAo, .ref hCAp])), (hCAo, .inl (cI, 150, .inl CAow)), (hSV, .inr (4, [.ref hCA, .ref hSVr, .ref hSVq, .ref hSVm]))] rfl (by decide) rfl rfl (Nat.le_of_ble_eq_true rfl) dX5_freeCellsBeside_15 rfl ?_
        obtain ⟨r5, c6, h_13⟩ := bd_s h_12
        refine j_cV (pc' := 21) cx (c_X1_isFree l D cI cZ cC cS hNW hCA hCAo hCAp CAow r3 r5 c6) 1 yk_X1_isFree wM_X5_35 ⟨wN_X1_isFree, wS_X1_isFree, wI_X1, wC_X1_isFree⟩ ⟨rfl, rfl, Nat.le_of_ble_eq_true rfl, Nat.le_of_ble_eq_true rfl, Nat.le_of_ble_eq_true rfl, Nat.le_of_ble_eq_true rfl⟩ [0, 1] [2] [1, 2, 0] rfl [(hSV, .inr (4, [.ref hCA, .ref hSVr, .ref hSVq, .ref hSVm]))] rfl (by decide) [(hCA, .inr (0, [.ref hNW, .ref hCAo, .ref hCAp])), (hCAo, .inl (cI, 150, .inl CAow)), (hSV, .inr (4, [.ref hCA, .ref hSVr, .ref hSVq, .ref hSVm]))] rfl (by decide) 0 0 rfl rfl rfl rfl rfl (Nat.le_of_ble_eq_true rfl) dX5_freeCellsBeside_18 rfl ?_
        obtain ⟨t7, h_15, h_14⟩ := bd_s h_13
        have Kt7 : j 0 0 [(hCA, .inr (0, [.ref hNW, .ref hCAo, .ref hCAp])), (hCAo, .inl (cI, 150, .inl CAow)), (hSV, .inr (4, [.ref hCA, .ref hSVr, .ref hSVq, .ref hSVm]))] [(0, .ref hSV), (1, .int p0), (2, .int t7), (3, .int s1.2)] 27 [] := by
          refine j_iinc (v := (s1.2 + 1)) (lv' := [(3, .int (s1.2 + 1)), (0, .ref hSV), (1, .int p0), (2, .int t7)]) (pc' := 30) cx 3 dX5_freeCellsBeside_27 rfl (kn_1 _) (by decide) rfl rfl ?_
          refine j_goto (pc' := 4) cx dX5_freeCellsBeside_30 (by decide) ?_
          have h_16 := so_i h_14
          subst h_16
          refine j_lv (lv' := [(0, .ref hSV), (1, .int p0), (2, .int t7), (3, .int (s1.2 + 1))]) cx [1, 2, 3, 0] rfl ?_
          exact ihe2 _ (se_l h_7)
        refine j_if_eq (tgt := 27) (pc' := 24) cx dX5_freeCellsBeside_21 (by decide) rfl (fun ch_15 => ?_) (fun ch_15 => ?_)
        · have h_17 := it_t h_15 ch_15
          have h_18 := so_i h_17
          subst h_18
          exact Kt7
        · have h_19 := it_f h_15 ch_15
          refine j_iinc (v := (s1.1 + 1)) (lv' := [(2, .int (s1.1 + 1)), (0, .ref hSV), (1, .int p0), (3, .int s1.2)]) (pc' := 27) cx 2 dX5_freeCellsBeside_24 rfl (kn_1 _) (by decide) rfl rfl ?_
          have h_20 := so_i h_19
          subst h_20
          refine j_lv (lv' := [(0, .ref hSV), (1, .int p0), (2, .int (s1.1 + 1)), (3, .int s1.2)]) cx [1, 2, 0, 3] rfl ?_
          exact Kt7
  refine j_lv (lv' := [(0, .ref hSV), (1, .int p0), (2, .int 0), (3, .int 0)]) cx [2, 3, 1, 0] rfl ?_
  exact LPe2 _ _ h_1
set_option maxHeartbeats 4000000 in
set_option maxRecDepth 100000 in
theorem c_X5_touchesOfArm (l : Launch) (D : va_G) (cI cZ cC cS : ClassId) (hNW hCA hCAo hCAp hSV hSVr hSVq hSVm : Nat) (CAow : Nat → Int32) (CApa : Nat → Int32) (p0 : Int32) (p1 : Int32) (out : Int32) (hm : f_X5_touchesOfArm CAow CApa p0 p1 = some out) : Ct l yX5_touchesOfArm cX5_touchesOfArm 5 (some .int) ({ frames := 2, cells := 0, slots := 0, locals := 45 }) (D, TY cI cZ cC cS) [.ref hSV, .int p0, .int p1] [(hCA, .inr (0, [.ref hNW, .ref hCAo, .ref hCAp])), (hCAo, .inl (cI, 150, .inl CAow)), (hCAp, .inl (cI, 150, .inl CApa)), (hSV, .inr (4, [.ref hCA, .ref hSVr, .ref hSVq, .ref hSVm]))] (jw_P (some (.int out)) [(hCA, .inr (0, [.ref hNW, .ref hCAo, .ref hCAp])), (hCAo, .inl (cI, 150, .inl CAow)), (hCAp, .inl (cI, 150, .inl CApa)), (hSV, .inr (4, [.ref hCA, .ref hSVr, .ref hSVq, .ref hSVm]))]) 0 0 := by
  refine ct_of RX5 (by decide +kernel) rfl (Nat.le_of_ble_eq_true rfl) (fun j cx => ?_)
  unfold f_X5_touchesOfArm at hm
  show j 0 0 [(hCA, .inr (0, [.ref hNW, .ref hCAo, .ref hCAp])), (hCAo, .inl (cI, 150, .inl CAow)), (hCAp, .inl (cI, 150, .inl CApa)), (hSV, .inr (4, [.ref hCA, .ref hSVr, .ref hSVq, .ref hSVm]))] [(0, .ref hSV), (1, .int p0), (2, .int p1)] 0 []
  refine j_iconst (pc' := 1) cx 0 dX5_touchesOfArm_0 ki_0 rfl ?_
  refine j_istore_n (lv' := [(3, .int 0), (0, .ref hSV), (1, .int p0), (2, .int p1)]) (pc' := 2) cx dX5_touchesOfArm_1 (by decide) rfl rfl ?_
  refine j_iconst (pc' := 3) cx 0 dX5_touchesOfArm_2 ki_0 rfl ?_
  refine j_istore (lv' := [(4, .int 0), (3, .int 0), (0, .ref hSV), (1, .int p0), (2, .int p1)]) (pc' := 5) cx dX5_touchesOfArm_3 (by decide) rfl rfl ?_
  obtain ⟨e2, h_1, h_2⟩ := bd_s hm
  have KXe2 : j 0 0 [(hCA, .inr (0, [.ref hNW, .ref hCAo, .ref hCAp])), (hCAo, .inl (cI, 150, .inl CAow)), (hCAp, .inl (cI, 150, .inl CApa)), (hSV, .inr (4, [.ref hCA, .ref hSVr, .ref hSVq, .ref hSVm]))] [(3, .int e2.1)] 37 [] := by
    refine j_iload_n (pc' := 38) cx 0 dX5_touchesOfArm_37 rfl rfl ?_
    have h_3 := so_i h_2
    subst h_3
    exact j_ret cx (Or.inr (Or.inl ⟨_, _, rfl, rfl, dX5_touchesOfArm_38, rfl, rfl⟩)) ⟨rfl, rfl⟩
  have LPe2 : ∀ (n : Nat) (s1 : Int32 × Int32), lp (f_X5_touchesOfArm_b1 CAow CApa p0 p1) n s1 = some e2 → j 0 0 [(hCA, .inr (0, [.ref hNW, .ref hCAo, .ref hCAp])), (hCAo, .inl (cI, 150, .inl CAow)), (hCAp, .inl (cI, 150, .inl CApa)), (hSV, .inr (4, [.ref hCA, .ref hSVr, .ref hSVq, .ref hSVm]))] [(0, .ref hSV), (1, .int p0), (2, .int p1), (3, .int s1.1), (4, .int s1.2)] 5 [] := by
    intro n
    induction n with
    | zero => intro s1 z; exact absurd z (by intro z; cases z)
    | succ n ihe2 =>
      intro s1 h_4
      obtain ⟨q_5, h_6, h_7⟩ := bd_s h_4
      unfold f_X5_touchesOfArm_b1 at h_6
      refine j_iload (pc' := 7) cx 4 dX5_touchesOfArm_5 rfl rfl ?_
      refine j_iconst (pc' := 8) cx 4 dX5_touchesOfArm_7 ki_4 rfl ?_
      refine j_icmp_ge (tgt := 37) (pc' := 11) cx dX5_touchesOfArm_8 (by decide) rfl (fun ch_6 => ?_) (fun ch_6 => ?_)
      · have h_8 := it_t h_6 ch_6
        have h_9 := so_i h_8
        subst h_9
        have h_10 := so_i (se_r h_7)
        subst h_10
        refine j_lv (lv' := [(3, .int s1.1)]) cx [3] rfl ?_
        exact KXe2
      · have h_11 := it_f h_6 ch_6
        refine j_aload_n (pc' := 12) cx 0 dX5_touchesOfArm_11 rfl rfl ?_
        refine j_get (C := RX5) (T := TX5) (N := 4) (pc' := 15) cx uB_X5 3 rfl rfl 0 (by decide) wF_X5_12 (.ref hCA) rfl dX5_touchesOfArm_12 rfl ?_
        refine j_iload_n (pc' := 16) cx 1 dX5_touchesOfArm_15 rfl rfl ?_
        refine j_iload (pc' := 18) cx 4 dX5_touchesOfArm_16 rfl rfl ?_
        obtain ⟨r3, c4, h_12⟩ := bd_s h_11
        refine j_cS (pc' := 21) cx (c_X0_beside l D cI cZ cC cS p0 s1.2 r3 c4) 2 yk_X0_beside wM_X5_29 ⟨wT_X0_beside, wI_X0, wC_X0_beside⟩ ⟨rfl, rfl, Nat.le_of_ble_eq_true rfl, Nat.le_of_ble_eq_true rfl, Nat.le_of_ble_eq_true rfl, Nat.le_of_ble_eq_true rfl⟩ [] [0, 1, 2, 3] [0, 1, 2, 3] rfl [(hCA, .inr (0, [.ref hNW, .ref hCAo, .ref hCAp])), (hCAo, .inl (cI, 150, .inl CAow)), (hCAp, .inl (cI, 150, .inl CApa)), (hSV, .inr (4, [.ref hCA, .ref hSVr, .ref hSVq, .ref hSVm]))] rfl (by decide) [(hCA, .inr (0, [.ref hNW, .ref hCAo, .ref hCAp])), (hCAo, .inl (cI, 150, .inl CAow)), (hCAp, .inl (cI, 150, .inl CApa)), (hSV, .inr (4, [.ref hCA, .ref hSVr, .ref hSVq, .ref hSVm]))] rfl (by decide) rfl rfl (Nat.le_of_ble_eq_true rfl) dX5_touchesOfArm_18 rfl ?_
        refine j_iload_n (pc' := 22) cx 2 dX5_touchesOfArm_21 rfl rfl ?_
        obtain ⟨r5, c6, h_13⟩ := bd_s h_12
        refine j_cV (pc' := 25) cx (c_X1_hasArmOfOther l D cI cZ cC cS hNW hCA hCAo hCAp CAow CApa r3 p1 r5 c6) 2 yk_X1_hasArmOfOther wM_X5_51 ⟨wN_X1_hasArmOfOther, wS_X1_hasArmOfOther, wI_X1, wC_X1_hasArmOfOther⟩ ⟨rfl, rfl, Nat.le_of_ble_eq_true rfl, Nat.le_of_ble_eq_true rfl, Nat.le_of_ble_eq_true rfl, Nat.le_of_ble_eq_true rfl⟩ [0, 1, 2] [3] [1, 2, 3, 0] rfl [(hSV, .inr (4, [.ref hCA, .ref hSVr, .ref hSVq, .ref hSVm]))] rfl (by decide) [(hCA, .inr (0, [.ref hNW, .ref hCAo, .ref hCAp])), (hCAo, .inl (cI, 150, .inl CAow)), (hCAp, .inl (cI, 150, .inl CApa)), (hSV, .inr (4, [.ref hCA, .ref hSVr, .ref hSVq, .ref hSVm]))] rfl (by decide) 0 0 rfl rfl rfl rfl rfl (Nat.le_of_ble_eq_true rfl) dX5_touchesOfArm_22 rfl ?_
        obtain ⟨t7, h_15, h_14⟩ := bd_s h_13
        have Kt7 : j 0 0 [(hCA, .inr (0, [.ref hNW, .ref hCAo, .ref hCAp])), (hCAo, .inl (cI, 150, .inl CAow)), (hCAp, .inl (cI, 150, .inl CApa)), (hSV, .inr (4, [.ref hCA, .ref hSVr, .ref hSVq, .ref hSVm]))] [(0, .ref hSV), (1, .int p0), (2, .int p1), (3, .int t7), (4, .int s1.2)] 31 [] := by
          refine j_iinc (v := (s1.2 + 1)) (lv' := [(4, .int (s1.2 + 1)), (0, .ref hSV), (1, .int p0), (2, .int p1), (3, .int t7)]) (pc' := 34) cx 4 dX5_touchesOfArm_31 rfl (kn_1 _) (by decide) rfl rfl ?_
          refine j_goto (pc' := 5) cx dX5_touchesOfArm_34 (by decide) ?_
          have h_16 := so_i h_14
          subst h_16
          refine j_lv (lv' := [(0, .ref hSV), (1, .int p0), (2, .int p1), (3, .int t7), (4, .int (s1.2 + 1))]) cx [1, 2, 3, 4, 0] rfl ?_
          exact ihe2 _ (se_l h_7)
        refine j_if_eq (tgt := 31) (pc' := 28) cx dX5_touchesOfArm_25 (by decide) rfl (fun ch_15 => ?_) (fun ch_15 => ?_)
        · have h_17 := it_t h_15 ch_15
          have h_18 := so_i h_17
          subst h_18
          exact Kt7
        · have h_19 := it_f h_15 ch_15
          refine j_iinc (v := (s1.1 + 1)) (lv' := [(3, .int (s1.1 + 1)), (0, .ref hSV), (1, .int p0), (2, .int p1), (4, .int s1.2)]) (pc' := 31) cx 3 dX5_touchesOfArm_28 rfl (kn_1 _) (by decide) rfl rfl ?_
          have h_20 := so_i h_19
          subst h_20
          refine j_lv (lv' := [(0, .ref hSV), (1, .int p0), (2, .int p1), (3, .int (s1.1 + 1)), (4, .int s1.2)]) cx [1, 2, 3, 0, 4] rfl ?_
          exact Kt7
  refine j_lv (lv' := [(0, .ref hSV), (1, .int p0), (2, .int p1), (3, .int 0), (4, .int 0)]) cx [2, 3, 4, 1, 0] rfl ?_
  exact LPe2 _ _ h_1
set_option maxHeartbeats 4000000 in
set_option maxRecDepth 100000 in
theorem c_X5_touchesAt (l : Launch) (D : va_G) (cI cZ cC cS : ClassId) (hNW hCA hCAo hCAp hSV hSVr hSVq hSVm : Nat) (CAow : Nat → Int32) (CApa : Nat → Int32) (p0 : Int32) (p1 : Int32) (out : Int32) (hm : f_X5_touchesAt CAow CApa p0 p1 = some out) : Ct l yX5_touchesAt cX5_touchesAt 5 (some .int) ({ frames := 3, cells := 0, slots := 0, locals := 69 }) (D, TY cI cZ cC cS) [.ref hSV, .int p0, .int p1] [(hCA, .inr (0, [.ref hNW, .ref hCAo, .ref hCAp])), (hCAo, .inl (cI, 150, .inl CAow)), (hCAp, .inl (cI, 150, .inl CApa)), (hSV, .inr (4, [.ref hCA, .ref hSVr, .ref hSVq, .ref hSVm]))] (jw_P (some (.int out)) [(hCA, .inr (0, [.ref hNW, .ref hCAo, .ref hCAp])), (hCAo, .inl (cI, 150, .inl CAow)), (hCAp, .inl (cI, 150, .inl CApa)), (hSV, .inr (4, [.ref hCA, .ref hSVr, .ref hSVq, .ref hSVm]))]) 0 0 := by
  refine ct_of RX5 (by decide +kernel) rfl (Nat.le_of_ble_eq_true rfl) (fun j cx => ?_)
  unfold f_X5_touchesAt at hm
  show j 0 0 [(hCA, .inr (0, [.ref hNW, .ref hCAo, .ref hCAp])), (hCAo, .inl (cI, 150, .inl CAow)), (hCAp, .inl (cI, 150, .inl CApa)), (hSV, .inr (4, [.ref hCA, .ref hSVr, .ref hSVq, .ref hSVm]))] [(0, .ref hSV), (1, .int p0), (2, .int p1)] 0 []
  refine j_iconst (pc' := 1) cx 0 dX5_touchesAt_0 ki_0 rfl ?_
  refine j_istore_n (lv' := [(3, .int 0), (0, .ref hSV), (1, .int p0), (2, .int p1)]) (pc' := 2) cx dX5_touchesAt_1 (by decide) rfl rfl ?_
  refine j_iconst (pc' := 3) cx 0 dX5_touchesAt_2 ki_0 rfl ?_
  refine j_istore (lv' := [(4, .int 0), (3, .int 0), (0, .ref hSV), (1, .int p0), (2, .int p1)]) (pc' := 5) cx dX5_touchesAt_3 (by decide) rfl rfl ?_
  obtain ⟨e2, h_1, h_2⟩ := bd_s hm
  have KXe2 : j 0 0 [(hCA, .inr (0, [.ref hNW, .ref hCAo, .ref hCAp])), (hCAo, .inl (cI, 150, .inl CAow)), (hCAp, .inl (cI, 150, .inl CApa)), (hSV, .inr (4, [.ref hCA, .ref hSVr, .ref hSVq, .ref hSVm]))] [(3, .int e2.1)] 31 [] := by
    refine j_iload_n (pc' := 32) cx 0 dX5_touchesAt_31 rfl rfl ?_
    have h_3 := so_i h_2
    subst h_3
    exact j_ret cx (Or.inr (Or.inl ⟨_, _, rfl, rfl, dX5_touchesAt_32, rfl, rfl⟩)) ⟨rfl, rfl⟩
  have LPe2 : ∀ (n : Nat) (s1 : Int32 × Int32), lp (f_X5_touchesAt_b1 CAow CApa p0 p1) n s1 = some e2 → j 0 0 [(hCA, .inr (0, [.ref hNW, .ref hCAo, .ref hCAp])), (hCAo, .inl (cI, 150, .inl CAow)), (hCAp, .inl (cI, 150, .inl CApa)), (hSV, .inr (4, [.ref hCA, .ref hSVr, .ref hSVq, .ref hSVm]))] [(0, .ref hSV), (1, .int p0), (2, .int p1), (3, .int s1.1), (4, .int s1.2)] 5 [] := by
    intro n
    induction n with
    | zero => intro s1 z; exact absurd z (by intro z; cases z)
    | succ n ihe2 =>
      intro s1 h_4
      obtain ⟨q_5, h_6, h_7⟩ := bd_s h_4
      unfold f_X5_touchesAt_b1 at h_6
      refine j_iload (pc' := 7) cx 4 dX5_touchesAt_5 rfl rfl ?_
      refine j_iconst (pc' := 8) cx 4 dX5_touchesAt_7 ki_4 rfl ?_
      refine j_icmp_ge (tgt := 31) (pc' := 11) cx dX5_touchesAt_8 (by decide) rfl (fun ch_6 => ?_) (fun ch_6 => ?_)
      · have h_8 := it_t h_6 ch_6
        have h_9 := so_i h_8
        subst h_9
        have h_10 := so_i (se_r h_7)
        subst h_10
        refine j_lv (lv' := [(3, .int s1.1)]) cx [3] rfl ?_
        exact KXe2
      · have h_11 := it_f h_6 ch_6
        refine j_iload_n (pc' := 12) cx 3 dX5_touchesAt_11 rfl rfl ?_
        refine j_aload_n (pc' := 13) cx 0 dX5_touchesAt_12 rfl rfl ?_
        refine j_iload_n (pc' := 14) cx 1 dX5_touchesAt_13 rfl rfl ?_
        refine j_iload (pc' := 16) cx 4 dX5_touchesAt_14 rfl rfl ?_
        obtain ⟨r3, c4, h_12⟩ := bd_s h_11
        refine j_cS (pc' := 19) cx (c_X0_beside l D cI cZ cC cS p0 s1.2 r3 c4) 2 yk_X0_beside wM_X5_29 ⟨wT_X0_beside, wI_X0, wC_X0_beside⟩ ⟨rfl, rfl, Nat.le_of_ble_eq_true rfl, Nat.le_of_ble_eq_true rfl, Nat.le_of_ble_eq_true rfl, Nat.le_of_ble_eq_true rfl⟩ [] [0, 1, 2, 3] [0, 1, 2, 3] rfl [(hCA, .inr (0, [.ref hNW, .ref hCAo, .ref hCAp])), (hCAo, .inl (cI, 150, .inl CAow)), (hCAp, .inl (cI, 150, .inl CApa)), (hSV, .inr (4, [.ref hCA, .ref hSVr, .ref hSVq, .ref hSVm]))] rfl (by decide) [(hCA, .inr (0, [.ref hNW, .ref hCAo, .ref hCAp])), (hCAo, .inl (cI, 150, .inl CAow)), (hCAp, .inl (cI, 150, .inl CApa)), (hSV, .inr (4, [.ref hCA, .ref hSVr, .ref hSVq, .ref hSVm]))] rfl (by decide) rfl rfl (Nat.le_of_ble_eq_true rfl) dX5_touchesAt_16 rfl ?_
        refine j_iload_n (pc' := 20) cx 2 dX5_touchesAt_19 rfl rfl ?_
        obtain ⟨r5, c6, h_13⟩ := bd_s h_12
        refine j_cV (pc' := 23) cx (c_X5_touchesOfArm l D cI cZ cC cS hNW hCA hCAo hCAp hSV hSVr hSVq hSVm CAow CApa r3 p1 r5 c6) 2 yk_X5_touchesOfArm wM_X5_39 ⟨wN_X5_touchesOfArm, wS_X5_touchesOfArm, wI_X5, wC_X5_touchesOfArm⟩ ⟨rfl, rfl, Nat.le_of_ble_eq_true rfl, Nat.le_of_ble_eq_true rfl, Nat.le_of_ble_eq_true rfl, Nat.le_of_ble_eq_true rfl⟩ [0, 1, 2, 3] [] [0, 1, 2, 3] rfl [] rfl (by decide) [(hCA, .inr (0, [.ref hNW, .ref hCAo, .ref hCAp])), (hCAo, .inl (cI, 150, .inl CAow)), (hCAp, .inl (cI, 150, .inl CApa)), (hSV, .inr (4, [.ref hCA, .ref hSVr, .ref hSVq, .ref hSVm]))] rfl (by decide) 3 4 rfl rfl rfl rfl rfl (Nat.le_of_ble_eq_true rfl) dX5_touchesAt_20 rfl ?_
        refine j_iadd (pc' := 24) cx dX5_touchesAt_23 rfl ?_
        refine j_istore_n (lv' := [(3, .int (s1.1 + r5)), (0, .ref hSV), (1, .int p0), (2, .int p1), (4, .int s1.2)]) (pc' := 25) cx dX5_touchesAt_24 (by decide) rfl rfl ?_
        refine j_iinc (v := (s1.2 + 1)) (lv' := [(4, .int (s1.2 + 1)), (3, .int (s1.1 + r5)), (0, .ref hSV), (1, .int p0), (2, .int p1)]) (pc' := 28) cx 4 dX5_touchesAt_25 rfl (kn_1 _) (by decide) rfl rfl ?_
        refine j_goto (pc' := 5) cx dX5_touchesAt_28 (by decide) ?_
        have h_14 := so_i h_13
        subst h_14
        refine j_lv (lv' := [(0, .ref hSV), (1, .int p0), (2, .int p1), (3, .int (s1.1 + r5)), (4, .int (s1.2 + 1))]) cx [2, 3, 4, 1, 0] rfl ?_
        exact ihe2 _ (se_l h_7)
  refine j_lv (lv' := [(0, .ref hSV), (1, .int p0), (2, .int p1), (3, .int 0), (4, .int 0)]) cx [2, 3, 4, 1, 0] rfl ?_
  exact LPe2 _ _ h_1
set_option maxHeartbeats 4000000 in
set_option maxRecDepth 100000 in
theorem c_X5_neighboursOf (l : Launch) (D : va_G) (cI cZ cC cS : ClassId) (hNW hNWk hNWt hNWm hNWc hCA hCAo hCAp hSV hSVr hSVq hSVm : Nat) (NWru : Int32) (NWco : Int32) (NWMa : Nat → Int32) (CAow : Nat → Int32) (CApa : Nat → Int32) (SVme : Nat → Int32) (p0 : Int32) (out : Int32 × (Nat → Int32)) (hm : f_X5_neighboursOf NWMa CAow CApa SVme p0 = some out) : Ct l yX5_neighboursOf cX5_neighboursOf 7 (some .int) ({ frames := 2, cells := 0, slots := 0, locals := 45 }) (D, TY cI cZ cC cS) [.ref hSV, .int p0] [(hNW, .inr (3, [.int NWru, .int NWco, .ref hNWk, .ref hNWt, .ref hNWm, .ref hNWc])), (hNWm, .inl (cI, 30, .inl NWMa)), (hCA, .inr (0, [.ref hNW, .ref hCAo, .ref hCAp])), (hCAo, .inl (cI, 150, .inl CAow)), (hCAp, .inl (cI, 150, .inl CApa)), (hSV, .inr (4, [.ref hCA, .ref hSVr, .ref hSVq, .ref hSVm])), (hSVm, .inl (cZ, 30, .inl SVme))] (jw_P (some (.int out.1)) [(hNW, .inr (3, [.int NWru, .int NWco, .ref hNWk, .ref hNWt, .ref hNWm, .ref hNWc])), (hNWm, .inl (cI, 30, .inl NWMa)), (hCA, .inr (0, [.ref hNW, .ref hCAo, .ref hCAp])), (hCAo, .inl (cI, 150, .inl CAow)), (hCAp, .inl (cI, 150, .inl CApa)), (hSV, .inr (4, [.ref hCA, .ref hSVr, .ref hSVq, .ref hSVm])), (hSVm, .inl (cZ, 30, .inl out.2))]) 0 0 := by
  refine ct_of RX5 (by decide +kernel) rfl (Nat.le_of_ble_eq_true rfl) (fun j cx => ?_)
  unfold f_X5_neighboursOf at hm
  show j 0 0 [(hNW, .inr (3, [.int NWru, .int NWco, .ref hNWk, .ref hNWt, .ref hNWm, .ref hNWc])), (hNWm, .inl (cI, 30, .inl NWMa)), (hCA, .inr (0, [.ref hNW, .ref hCAo, .ref hCAp])), (hCAo, .inl (cI, 150, .inl CAow)), (hCAp, .inl (cI, 150, .inl CApa)), (hSV, .inr (4, [.ref hCA, .ref hSVr, .ref hSVq, .ref hSVm])), (hSVm, .inl (cZ, 30, .inl SVme))] [(0, .ref hSV), (1, .int p0)] 0 []
  refine j_iconst (pc' := 1) cx 0 dX5_neighboursOf_0 ki_0 rfl ?_
  refine j_istore_n (lv' := [(2, .int 0), (0, .ref hSV), (1, .int p0)]) (pc' := 2) cx dX5_neighboursOf_1 (by decide) rfl rfl ?_
  obtain ⟨e2, h_1, h_2⟩ := bd_s hm
  have KXe2 : j 0 0 [(hNW, .inr (3, [.int NWru, .int NWco, .ref hNWk, .ref hNWt, .ref hNWm, .ref hNWc])), (hNWm, .inl (cI, 30, .inl NWMa)), (hCA, .inr (0, [.ref hNW, .ref hCAo, .ref hCAp])), (hCAo, .inl (cI, 150, .inl CAow)), (hCAp, .inl (cI, 150, .inl CApa)), (hSV, .inr (4, [.ref hCA, .ref hSVr, .ref hSVq, .ref hSVm])), (hSVm, .inl (cZ, 30, .inl e2.2))] [(0, .ref hSV), (1, .int p0)] 21 [] := by
    refine j_iconst (pc' := 22) cx 0 dX5_neighboursOf_21 ki_0 rfl ?_
    refine j_istore_n (lv' := [(2, .int 0), (0, .ref hSV), (1, .int p0)]) (pc' := 23) cx dX5_neighboursOf_22 (by decide) rfl rfl ?_
    refine j_iconst (pc' := 24) cx 0 dX5_neighboursOf_23 ki_0 rfl ?_
    refine j_istore_n (lv' := [(3, .int 0), (2, .int 0), (0, .ref hSV), (1, .int p0)]) (pc' := 25) cx dX5_neighboursOf_24 (by decide) rfl rfl ?_
    obtain ⟨e5, h_3, h_4⟩ := bd_s h_2
    have KXe5 : j 0 0 [(hNW, .inr (3, [.int NWru, .int NWco, .ref hNWk, .ref hNWt, .ref hNWm, .ref hNWc])), (hNWm, .inl (cI, 30, .inl NWMa)), (hCA, .inr (0, [.ref hNW, .ref hCAo, .ref hCAp])), (hCAo, .inl (cI, 150, .inl CAow)), (hCAp, .inl (cI, 150, .inl CApa)), (hSV, .inr (4, [.ref hCA, .ref hSVr, .ref hSVq, .ref hSVm])), (hSVm, .inl (cZ, 30, .inl e5.2.2))] [(2, .int e5.1)] 126 [] := by
      refine j_iload_n (pc' := 127) cx 0 dX5_neighboursOf_126 rfl rfl ?_
      have h_5 := so_i h_4
      subst h_5
      exact j_ret cx (Or.inr (Or.inl ⟨_, _, rfl, rfl, dX5_neighboursOf_127, rfl, rfl⟩)) ⟨rfl, rfl⟩
    have LPe5 : ∀ (n : Nat) (s4 : Int32 × Int32 × (Nat → Int32)), lp (f_X5_neighboursOf_b3 NWMa CAow CApa p0) n s4 = some e5 → j 0 0 [(hNW, .inr (3, [.int NWru, .int NWco, .ref hNWk, .ref hNWt, .ref hNWm, .ref hNWc])), (hNWm, .inl (cI, 30, .inl NWMa)), (hCA, .inr (0, [.ref hNW, .ref hCAo, .ref hCAp])), (hCAo, .inl (cI, 150, .inl CAow)), (hCAp, .inl (cI, 150, .inl CApa)), (hSV, .inr (4, [.ref hCA, .ref hSVr, .ref hSVq, .ref hSVm])), (hSVm, .inl (cZ, 30, .inl s4.2.2))] [(0, .ref hSV), (1, .int p0), (2, .int s4.1), (3, .int s4.2.1)] 25 [] := by
      intro n
      induction n with
      | zero => intro s4 z; exact absurd z (by intro z; cases z)
      | succ n ihe5 =>
        intro s4 h_6
        obtain ⟨q_7, h_8, h_9⟩ := bd_s h_6
        unfold f_X5_neighboursOf_b3 at h_8
        refine j_iload_n (pc' := 26) cx 3 dX5_neighboursOf_25 rfl rfl ?_
        refine j_iconst (pc' := 27) cx 4 dX5_neighboursOf_26 ki_4 rfl ?_
        refine j_icmp_ge (tgt := 126) (pc' := 30) cx dX5_neighboursOf_27 (by decide) rfl (fun ch_8 => ?_) (fun ch_8 => ?_)
        · have h_10 := it_t h_8 ch_8
          have h_11 := so_i h_10
          subst h_11
          have h_12 := so_i (se_r h_9)
          subst h_12
          refine j_lv (lv' := [(2, .int s4.1)]) cx [2] rfl ?_
          exact KXe5
        · have h_13 := it_f h_8 ch_8
          refine j_aload_n (pc' := 31) cx 0 dX5_neighboursOf_30 rfl rfl ?_
          refine j_get (C := RX5) (T := TX5) (N := 4) (pc' := 34) cx uB_X5 5 rfl rfl 0 (by decide) wF_X5_12 (.ref hCA) rfl dX5_neighboursOf_31 rfl ?_
          refine j_get (C := RX1) (T := TX1) (N := 3) (pc' := 37) cx uB_X1 2 rfl rfl 0 (by decide) wF_X5_42 (.ref hNW) rfl dX5_neighboursOf_34 rfl ?_
          refine j_get (C := RX4) (T := TX4) (N := 6) (pc' := 40) cx uB_X4 0 rfl rfl 4 (by decide) wF_X5_46 (.ref hNWm) rfl dX5_neighboursOf_37 rfl ?_
          refine j_iload_n (pc' := 41) cx 1 dX5_neighboursOf_40 rfl rfl ?_
          obtain ⟨i6, h_14⟩ := ck_s h_13
          refine j_iald (pc' := 42) cx 1 0 rfl rfl i6 dX5_neighboursOf_41 rfl ?_
          refine j_iload_n (pc' := 43) cx 3 dX5_neighboursOf_42 rfl rfl ?_
          obtain ⟨r7, c8, h_15⟩ := bd_s h_14
          refine j_cS (pc' := 46) cx (c_X0_beside l D cI cZ cC cS (NWMa p0.toNatClampNeg) s4.2.1 r7 c8) 2 yk_X0_beside wM_X5_29 ⟨wT_X0_beside, wI_X0, wC_X0_beside⟩ ⟨rfl, rfl, Nat.le_of_ble_eq_true rfl, Nat.le_of_ble_eq_true rfl, Nat.le_of_ble_eq_true rfl, Nat.le_of_ble_eq_true rfl⟩ [] [0, 1, 2, 3, 4, 5, 6] [0, 1, 2, 3, 4, 5, 6] rfl [(hNW, .inr (3, [.int NWru, .int NWco, .ref hNWk, .ref hNWt, .ref hNWm, .ref hNWc])), (hNWm, .inl (cI, 30, .inl NWMa)), (hCA, .inr (0, [.ref hNW, .ref hCAo, .ref hCAp])), (hCAo, .inl (cI, 150, .inl CAow)), (hCAp, .inl (cI, 150, .inl CApa)), (hSV, .inr (4, [.ref hCA, .ref hSVr, .ref hSVq, .ref hSVm])), (hSVm, .inl (cZ, 30, .inl s4.2.2))] rfl (by decide) [(hNW, .inr (3, [.int NWru, .int NWco, .ref hNWk, .ref hNWt, .ref hNWm, .ref hNWc])), (hNWm, .inl (cI, 30, .inl NWMa)), (hCA, .inr (0, [.ref hNW, .ref hCAo, .ref hCAp])), (hCAo, .inl (cI, 150, .inl CAow)), (hCAp, .inl (cI, 150, .inl CApa)), (hSV, .inr (4, [.ref hCA, .ref hSVr, .ref hSVq, .ref hSVm])), (hSVm, .inl (cZ, 30, .inl s4.2.2))] rfl (by decide) rfl rfl (Nat.le_of_ble_eq_true rfl) dX5_neighboursOf_43 rfl ?_
          refine j_istore (lv' := [(4, .int r7), (0, .ref hSV), (1, .int p0), (2, .int s4.1), (3, .int s4.2.1)]) (pc' := 48) cx dX5_neighboursOf_46 (by decide) rfl rfl ?_
          refine j_iconst (pc' := 49) cx 0 dX5_neighboursOf_48 ki_0 rfl ?_
          refine j_istore (lv' := [(5, .int 0), (4, .int r7), (0, .ref hSV), (1, .int p0), (2, .int s4.1), (3, .int s4.2.1)]) (pc' := 51) cx dX5_neighboursOf_49 (by decide) rfl rfl ?_
          obtain ⟨e10, h_16, h_17⟩ := bd_s h_15
          have KXe10 : j 0 0 [(hNW, .inr (3, [.int NWru, .int NWco, .ref hNWk, .ref hNWt, .ref hNWm, .ref hNWc])), (hNWm, .inl (cI, 30, .inl NWMa)), (hCA, .inr (0, [.ref hNW, .ref hCAo, .ref hCAp])), (hCAo, .inl (cI, 150, .inl CAow)), (hCAp, .inl (cI, 150, .inl CApa)), (hSV, .inr (4, [.ref hCA, .ref hSVr, .ref hSVq, .ref hSVm])), (hSVm, .inl (cZ, 30, .inl e10.2.2))] [(0, .ref hSV), (1, .int p0), (2, .int e10.1), (3, .int s4.2.1)] 120 [] := by
            refine j_iinc (v := (s4.2.1 + 1)) (lv' := [(3, .int (s4.2.1 + 1)), (0, .ref hSV), (1, .int p0), (2, .int e10.1)]) (pc' := 123) cx 3 dX5_neighboursOf_120 rfl (kn_1 _) (by decide) rfl rfl ?_
            refine j_goto (pc' := 25) cx dX5_neighboursOf_123 (by decide) ?_
            have h_18 := so_i h_17
            subst h_18
            refine j_lv (lv' := [(0, .ref hSV), (1, .int p0), (2, .int e10.1), (3, .int (s4.2.1 + 1))]) cx [1, 2, 3, 0] rfl ?_
            exact ihe5 _ (se_l h_9)
          have LPe10 : ∀ (n : Nat) (s9 : Int32 × Int32 × (Nat → Int32)), lp (f_X5_neighboursOf_b2 CAow CApa p0 r7) n s9 = some e10 → j 0 0 [(hNW, .inr (3, [.int NWru, .int NWco, .ref hNWk, .ref hNWt, .ref hNWm, .ref hNWc])), (hNWm, .inl (cI, 30, .inl NWMa)), (hCA, .inr (0, [.ref hNW, .ref hCAo, .ref hCAp])), (hCAo, .inl (cI, 150, .inl CAow)), (hCAp, .inl (cI, 150, .inl CApa)), (hSV, .inr (4, [.ref hCA, .ref hSVr, .ref hSVq, .ref hSVm])), (hSVm, .inl (cZ, 30, .inl s9.2.2))] [(0, .ref hSV), (1, .int p0), (2, .int s9.1), (3, .int s4.2.1), (4, .int r7), (5, .int s9.2.1)] 51 [] := by
            intro n
            induction n with
            | zero => intro s9 z; exact absurd z (by intro z; cases z)
            | succ n ihe10 =>
              intro s9 h_19
              obtain ⟨q_20, h_21, h_22⟩ := bd_s h_19
              unfold f_X5_neighboursOf_b2 at h_21
              refine j_iload (pc' := 53) cx 5 dX5_neighboursOf_51 rfl rfl ?_
              refine j_iconst (pc' := 54) cx 4 dX5_neighboursOf_53 ki_4 rfl ?_
              refine j_icmp_ge (tgt := 120) (pc' := 57) cx dX5_neighboursOf_54 (by decide) rfl (fun ch_21 => ?_) (fun ch_21 => ?_)
              · have h_23 := it_t h_21 ch_21
                have h_24 := so_i h_23
                subst h_24
                have h_25 := so_i (se_r h_22)
                subst h_25
                refine j_lv (lv' := [(0, .ref hSV), (1, .int p0), (2, .int s9.1), (3, .int s4.2.1)]) cx [0, 1, 2, 3] rfl ?_
                exact KXe10
              · have h_26 := it_f h_21 ch_21
                refine j_iload (pc' := 59) cx 4 dX5_neighboursOf_57 rfl rfl ?_
                refine j_iload (pc' := 61) cx 5 dX5_neighboursOf_59 rfl rfl ?_
                obtain ⟨r11, c12, h_27⟩ := bd_s h_26
                refine j_cS (pc' := 64) cx (c_X0_beside l D cI cZ cC cS r7 s9.2.1 r11 c12) 2 yk_X0_beside wM_X5_29 ⟨wT_X0_beside, wI_X0, wC_X0_beside⟩ ⟨rfl, rfl, Nat.le_of_ble_eq_true rfl, Nat.le_of_ble_eq_true rfl, Nat.le_of_ble_eq_true rfl, Nat.le_of_ble_eq_true rfl⟩ [] [0, 1, 2, 3, 4, 5, 6] [0, 1, 2, 3, 4, 5, 6] rfl [(hNW, .inr (3, [.int NWru, .int NWco, .ref hNWk, .ref hNWt, .ref hNWm, .ref hNWc])), (hNWm, .inl (cI, 30, .inl NWMa)), (hCA, .inr (0, [.ref hNW, .ref hCAo, .ref hCAp])), (hCAo, .inl (cI, 150, .inl CAow)), (hCAp, .inl (cI, 150, .inl CApa)), (hSV, .inr (4, [.ref hCA, .ref hSVr, .ref hSVq, .ref hSVm])), (hSVm, .inl (cZ, 30, .inl s9.2.2))] rfl (by decide) [(hNW, .inr (3, [.int NWru, .int NWco, .ref hNWk, .ref hNWt, .ref hNWm, .ref hNWc])), (hNWm, .inl (cI, 30, .inl NWMa)), (hCA, .inr (0, [.ref hNW, .ref hCAo, .ref hCAp])), (hCAo, .inl (cI, 150, .inl CAow)), (hCAp, .inl (cI, 150, .inl CApa)), (hSV, .inr (4, [.ref hCA, .ref hSVr, .ref hSVq, .ref hSVm])), (hSVm, .inl (cZ, 30, .inl s9.2.2))] rfl (by decide) rfl rfl (Nat.le_of_ble_eq_true rfl) dX5_neighboursOf_61 rfl ?_
                refine j_istore (lv' := [(6, .int r11), (0, .ref hSV), (1, .int p0), (2, .int s9.1), (3, .int s4.2.1), (4, .int r7), (5, .int s9.2.1)]) (pc' := 66) cx dX5_neighboursOf_64 (by decide) rfl rfl ?_
                refine j_aload_n (pc' := 67) cx 1 dX5_neighboursOf_66 rfl rfl ?_
                refine j_get (C := RX5) (T := TX5) (N := 4) (pc' := 70) cx uB_X5 5 rfl rfl 0 (by decide) wF_X5_12 (.ref hCA) rfl dX5_neighboursOf_67 rfl ?_
                refine j_iload (pc' := 72) cx 0 dX5_neighboursOf_70 rfl rfl ?_
                refine j_iload_n (pc' := 73) cx 2 dX5_neighboursOf_72 rfl rfl ?_
                obtain ⟨r13, c14, h_28⟩ := bd_s h_27
                refine j_cV (pc' := 76) cx (c_X1_hasArmOfOther l D cI cZ cC cS hNW hCA hCAo hCAp CAow CApa r11 p0 r13 c14) 2 yk_X1_hasArmOfOther wM_X5_51 ⟨wN_X1_hasArmOfOther, wS_X1_hasArmOfOther, wI_X1, wC_X1_hasArmOfOther⟩ ⟨rfl, rfl, Nat.le_of_ble_eq_true rfl, Nat.le_of_ble_eq_true rfl, Nat.le_of_ble_eq_true rfl, Nat.le_of_ble_eq_true rfl⟩ [2, 3, 4] [0, 1, 5, 6] [0, 1, 4, 5, 6, 2, 3] rfl [(hNW, .inr (3, [.int NWru, .int NWco, .ref hNWk, .ref hNWt, .ref hNWm, .ref hNWc])), (hNWm, .inl (cI, 30, .inl NWMa)), (hSV, .inr (4, [.ref hCA, .ref hSVr, .ref hSVq, .ref hSVm])), (hSVm, .inl (cZ, 30, .inl s9.2.2))] rfl (by decide) [(hNW, .inr (3, [.int NWru, .int NWco, .ref hNWk, .ref hNWt, .ref hNWm, .ref hNWc])), (hNWm, .inl (cI, 30, .inl NWMa)), (hCA, .inr (0, [.ref hNW, .ref hCAo, .ref hCAp])), (hCAo, .inl (cI, 150, .inl CAow)), (hCAp, .inl (cI, 150, .inl CApa)), (hSV, .inr (4, [.ref hCA, .ref hSVr, .ref hSVq, .ref hSVm])), (hSVm, .inl (cZ, 30, .inl s9.2.2))] rfl (by decide) 2 0 rfl rfl rfl rfl rfl (Nat.le_of_ble_eq_true rfl) dX5_neighboursOf_73 rfl ?_
                obtain ⟨t21, h_30, h_29⟩ := bd_s h_28
                have Kt21 : j 0 0 [(hNW, .inr (3, [.int NWru, .int NWco, .ref hNWk, .ref hNWt, .ref hNWm, .ref hNWc])), (hNWm, .inl (cI, 30, .inl NWMa)), (hCA, .inr (0, [.ref hNW, .ref hCAo, .ref hCAp])), (hCAo, .inl (cI, 150, .inl CAow)), (hCAp, .inl (cI, 150, .inl CApa)), (hSV, .inr (4, [.ref hCA, .ref hSVr, .ref hSVq, .ref hSVm])), (hSVm, .inl (cZ, 30, .inl t21.2))] [(0, .ref hSV), (1, .int p0), (2, .int t21.1), (3, .int s4.2.1), (4, .int r7), (5, .int s9.2.1)] 114 [] := by
                  refine j_iinc (v := (s9.2.1 + 1)) (lv' := [(5, .int (s9.2.1 + 1)), (0, .ref hSV), (1, .int p0), (2, .int t21.1), (3, .int s4.2.1), (4, .int r7)]) (pc' := 117) cx 5 dX5_neighboursOf_114 rfl (kn_1 _) (by decide) rfl rfl ?_
                  refine j_goto (pc' := 51) cx dX5_neighboursOf_117 (by decide) ?_
                  have h_31 := so_i h_29
                  subst h_31
                  refine j_lv (lv' := [(0, .ref hSV), (1, .int p0), (2, .int t21.1), (3, .int s4.2.1), (4, .int r7), (5, .int (s9.2.1 + 1))]) cx [1, 2, 3, 4, 5, 0] rfl ?_
                  exact ihe10 _ (se_l h_22)
                refine j_if_eq (tgt := 114) (pc' := 79) cx dX5_neighboursOf_76 (by decide) rfl (fun ch_30 => ?_) (fun ch_30 => ?_)
                · have h_32 := it_t h_30 ch_30
                  have h_33 := so_i h_32
                  subst h_33
                  refine j_lv (lv' := [(0, .ref hSV), (1, .int p0), (2, .int s9.1), (3, .int s4.2.1), (4, .int r7), (5, .int s9.2.1)]) cx [1, 2, 3, 4, 5, 6] rfl ?_
                  exact Kt21
                · have h_34 := it_f h_30 ch_30
                  refine j_aload_n (pc' := 80) cx 1 dX5_neighboursOf_79 rfl rfl ?_
                  refine j_get (C := RX5) (T := TX5) (N := 4) (pc' := 83) cx uB_X5 5 rfl rfl 3 (by decide) wF_X5_26 (.ref hSVm) rfl dX5_neighboursOf_80 rfl ?_
                  refine j_aload_n (pc' := 84) cx 1 dX5_neighboursOf_83 rfl rfl ?_
                  refine j_get (C := RX5) (T := TX5) (N := 4) (pc' := 87) cx uB_X5 5 rfl rfl 0 (by decide) wF_X5_12 (.ref hCA) rfl dX5_neighboursOf_84 rfl ?_
                  refine j_iload (pc' := 89) cx 0 dX5_neighboursOf_87 rfl rfl ?_
                  obtain ⟨r15, c16, h_35⟩ := bd_s h_34
                  refine j_cV (pc' := 92) cx (c_X1_ownerOf l D cI cZ cC cS hNW hCA hCAo hCAp CAow r11 r15 c16) 1 yk_X1_ownerOf wM_X5_55 ⟨wN_X1_ownerOf, wS_X1_ownerOf, wI_X1, wC_X1_ownerOf⟩ ⟨rfl, rfl, Nat.le_of_ble_eq_true rfl, Nat.le_of_ble_eq_true rfl, Nat.le_of_ble_eq_true rfl, Nat.le_of_ble_eq_true rfl⟩ [2, 3] [0, 1, 4, 5, 6] [0, 1, 5, 6, 2, 3, 4] rfl [(hNW, .inr (3, [.int NWru, .int NWco, .ref hNWk, .ref hNWt, .ref hNWm, .ref hNWc])), (hNWm, .inl (cI, 30, .inl NWMa)), (hCAp, .inl (cI, 150, .inl CApa)), (hSV, .inr (4, [.ref hCA, .ref hSVr, .ref hSVq, .ref hSVm])), (hSVm, .inl (cZ, 30, .inl s9.2.2))] rfl (by decide) [(hNW, .inr (3, [.int NWru, .int NWco, .ref hNWk, .ref hNWt, .ref hNWm, .ref hNWc])), (hNWm, .inl (cI, 30, .inl NWMa)), (hCA, .inr (0, [.ref hNW, .ref hCAo, .ref hCAp])), (hCAo, .inl (cI, 150, .inl CAow)), (hCAp, .inl (cI, 150, .inl CApa)), (hSV, .inr (4, [.ref hCA, .ref hSVr, .ref hSVq, .ref hSVm])), (hSVm, .inl (cZ, 30, .inl s9.2.2))] rfl (by decide) 2 0 rfl rfl rfl rfl rfl (Nat.le_of_ble_eq_true rfl) dX5_neighboursOf_89 rfl ?_
                  obtain ⟨i17, h_36⟩ := ck_s h_35
                  refine j_zald (pc' := 93) cx 6 1 rfl rfl i17 dX5_neighboursOf_92 rfl ?_
                  refine j_if_ne (tgt := 114) (pc' := 96) cx dX5_neighboursOf_93 (by decide) rfl (fun ch_36 => ?_) (fun ch_36 => ?_)
                  · have h_37 := it_f h_36 ch_36
                    have h_38 := so_i h_37
                    subst h_38
                    refine j_lv (lv' := [(0, .ref hSV), (1, .int p0), (2, .int s9.1), (3, .int s4.2.1), (4, .int r7), (5, .int s9.2.1)]) cx [1, 2, 3, 4, 5, 6] rfl ?_
                    exact Kt21
                  · have h_39 := it_t h_36 ch_36
                    refine j_aload_n (pc' := 97) cx 1 dX5_neighboursOf_96 rfl rfl ?_
                    refine j_get (C := RX5) (T := TX5) (N := 4) (pc' := 100) cx uB_X5 5 rfl rfl 3 (by decide) wF_X5_26 (.ref hSVm) rfl dX5_neighboursOf_97 rfl ?_
                    refine j_aload_n (pc' := 101) cx 1 dX5_neighboursOf_100 rfl rfl ?_
                    refine j_get (C := RX5) (T := TX5) (N := 4) (pc' := 104) cx uB_X5 5 rfl rfl 0 (by decide) wF_X5_12 (.ref hCA) rfl dX5_neighboursOf_101 rfl ?_
                    refine j_iload (pc' := 106) cx 0 dX5_neighboursOf_104 rfl rfl ?_
                    obtain ⟨r18, c19, h_40⟩ := bd_s h_39
                    refine j_cV (pc' := 109) cx (c_X1_ownerOf l D cI cZ cC cS hNW hCA hCAo hCAp CAow r11 r18 c19) 1 yk_X1_ownerOf wM_X5_55 ⟨wN_X1_ownerOf, wS_X1_ownerOf, wI_X1, wC_X1_ownerOf⟩ ⟨rfl, rfl, Nat.le_of_ble_eq_true rfl, Nat.le_of_ble_eq_true rfl, Nat.le_of_ble_eq_true rfl, Nat.le_of_ble_eq_true rfl⟩ [2, 3] [0, 1, 4, 5, 6] [0, 1, 5, 6, 2, 3, 4] rfl [(hNW, .inr (3, [.int NWru, .int NWco, .ref hNWk, .ref hNWt, .ref hNWm, .ref hNWc])), (hNWm, .inl (cI, 30, .inl NWMa)), (hCAp, .inl (cI, 150, .inl CApa)), (hSV, .inr (4, [.ref hCA, .ref hSVr, .ref hSVq, .ref hSVm])), (hSVm, .inl (cZ, 30, .inl s9.2.2))] rfl (by decide) [(hNW, .inr (3, [.int NWru, .int NWco, .ref hNWk, .ref hNWt, .ref hNWm, .ref hNWc])), (hNWm, .inl (cI, 30, .inl NWMa)), (hCA, .inr (0, [.ref hNW, .ref hCAo, .ref hCAp])), (hCAo, .inl (cI, 150, .inl CAow)), (hCAp, .inl (cI, 150, .inl CApa)), (hSV, .inr (4, [.ref hCA, .ref hSVr, .ref hSVq, .ref hSVm])), (hSVm, .inl (cZ, 30, .inl s9.2.2))] rfl (by decide) 2 0 rfl rfl rfl rfl rfl (Nat.le_of_ble_eq_true rfl) dX5_neighboursOf_106 rfl ?_
                    refine j_iconst (pc' := 110) cx 1 dX5_neighboursOf_109 ki_1 rfl ?_
                    obtain ⟨i20, h_41⟩ := ck_s h_40
                    refine j_zast (ws' := [(hNW, .inr (3, [.int NWru, .int NWco, .ref hNWk, .ref hNWt, .ref hNWm, .ref hNWc])), (hNWm, .inl (cI, 30, .inl NWMa)), (hCA, .inr (0, [.ref hNW, .ref hCAo, .ref hCAp])), (hCAo, .inl (cI, 150, .inl CAow)), (hCAp, .inl (cI, 150, .inl CApa)), (hSV, .inr (4, [.ref hCA, .ref hSVr, .ref hSVq, .ref hSVm])), (hSVm, .inl (cZ, 30, .inl (upd s9.2.2 r18.toNatClampNeg (vp_nar .boolean 1))))]) (pc' := 111) cx 6 1 rfl rfl i20 rfl dX5_neighboursOf_110 rfl ?_
                    refine j_iinc (v := (s9.1 + 1)) (lv' := [(2, .int (s9.1 + 1)), (6, .int r11), (0, .ref hSV), (1, .int p0), (3, .int s4.2.1), (4, .int r7), (5, .int s9.2.1)]) (pc' := 114) cx 3 dX5_neighboursOf_111 rfl (kn_1 _) (by decide) rfl rfl ?_
                    have h_42 := so_i h_41
                    subst h_42
                    refine j_lv (lv' := [(0, .ref hSV), (1, .int p0), (2, .int (s9.1 + 1)), (3, .int s4.2.1), (4, .int r7), (5, .int s9.2.1)]) cx [2, 3, 0, 4, 5, 6] rfl ?_
                    exact Kt21
          refine j_lv (lv' := [(0, .ref hSV), (1, .int p0), (2, .int s4.1), (3, .int s4.2.1), (4, .int r7), (5, .int 0)]) cx [2, 3, 4, 5, 1, 0] rfl ?_
          exact LPe10 _ _ h_16
    refine j_lv (lv' := [(0, .ref hSV), (1, .int p0), (2, .int 0), (3, .int 0)]) cx [2, 3, 1, 0] rfl ?_
    exact LPe5 _ _ h_3
  have LPe2 : ∀ (n : Nat) (s1 : Int32 × (Nat → Int32)), lp (f_X5_neighboursOf_b1) n s1 = some e2 → j 0 0 [(hNW, .inr (3, [.int NWru, .int NWco, .ref hNWk, .ref hNWt, .ref hNWm, .ref hNWc])), (hNWm, .inl (cI, 30, .inl NWMa)), (hCA, .inr (0, [.ref hNW, .ref hCAo, .ref hCAp])), (hCAo, .inl (cI, 150, .inl CAow)), (hCAp, .inl (cI, 150, .inl CApa)), (hSV, .inr (4, [.ref hCA, .ref hSVr, .ref hSVq, .ref hSVm])), (hSVm, .inl (cZ, 30, .inl s1.2))] [(0, .ref hSV), (1, .int p0), (2, .int s1.1)] 2 [] := by
    intro n
    induction n with
    | zero => intro s1 z; exact absurd z (by intro z; cases z)
    | succ n ihe2 =>
      intro s1 h_43
      obtain ⟨q_44, h_45, h_46⟩ := bd_s h_43
      unfold f_X5_neighboursOf_b1 at h_45
      refine j_iload_n (pc' := 3) cx 2 dX5_neighboursOf_2 rfl rfl ?_
      refine j_bipush (pc' := 5) cx 30 dX5_neighboursOf_3 kb_30 rfl ?_
      refine j_icmp_ge (tgt := 21) (pc' := 8) cx dX5_neighboursOf_5 (by decide) rfl (fun ch_45 => ?_) (fun ch_45 => ?_)
      · have h_47 := it_t h_45 ch_45
        have h_48 := so_i h_47
        subst h_48
        have h_49 := so_i (se_r h_46)
        subst h_49
        refine j_lv (lv' := [(0, .ref hSV), (1, .int p0)]) cx [0, 1] rfl ?_
        exact KXe2
      · have h_50 := it_f h_45 ch_45
        refine j_aload_n (pc' := 9) cx 0 dX5_neighboursOf_8 rfl rfl ?_
        refine j_get (C := RX5) (T := TX5) (N := 4) (pc' := 12) cx uB_X5 5 rfl rfl 3 (by decide) wF_X5_26 (.ref hSVm) rfl dX5_neighboursOf_9 rfl ?_
        refine j_iload_n (pc' := 13) cx 2 dX5_neighboursOf_12 rfl rfl ?_
        refine j_iconst (pc' := 14) cx 0 dX5_neighboursOf_13 ki_0 rfl ?_
        obtain ⟨i3, h_51⟩ := ck_s h_50
        refine j_zast (ws' := [(hNW, .inr (3, [.int NWru, .int NWco, .ref hNWk, .ref hNWt, .ref hNWm, .ref hNWc])), (hNWm, .inl (cI, 30, .inl NWMa)), (hCA, .inr (0, [.ref hNW, .ref hCAo, .ref hCAp])), (hCAo, .inl (cI, 150, .inl CAow)), (hCAp, .inl (cI, 150, .inl CApa)), (hSV, .inr (4, [.ref hCA, .ref hSVr, .ref hSVq, .ref hSVm])), (hSVm, .inl (cZ, 30, .inl (upd s1.2 s1.1.toNatClampNeg (vp_nar .boolean 0))))]) (pc' := 15) cx 6 1 rfl rfl i3 rfl dX5_neighboursOf_14 rfl ?_
        refine j_iinc (v := (s1.1 + 1)) (lv' := [(2, .int (s1.1 + 1)), (0, .ref hSV), (1, .int p0)]) (pc' := 18) cx 2 dX5_neighboursOf_15 rfl (kn_1 _) (by decide) rfl rfl ?_
        refine j_goto (pc' := 2) cx dX5_neighboursOf_18 (by decide) ?_
        have h_52 := so_i h_51
        subst h_52
        refine j_lv (lv' := [(0, .ref hSV), (1, .int p0), (2, .int (s1.1 + 1))]) cx [1, 2, 0] rfl ?_
        exact ihe2 _ (se_l h_46)
  refine j_lv (lv' := [(0, .ref hSV), (1, .int p0), (2, .int 0)]) cx [1, 2, 0] rfl ?_
  exact LPe2 _ _ h_1
set_option maxHeartbeats 4000000 in
set_option maxRecDepth 100000 in
theorem c_X5_armsThatTouchNone (l : Launch) (D : va_G) (cI cZ cC cS : ClassId) (hNW hNWk hNWt hNWm hNWc hCA hCAo hCAp hSV hSVr hSVq hSVm : Nat) (NWru : Int32) (NWco : Int32) (NWMa : Nat → Int32) (CAow : Nat → Int32) (CApa : Nat → Int32) (p0 : Int32) (out : Int32) (hm : f_X5_armsThatTouchNone NWMa CAow CApa p0 = some out) : Ct l yX5_armsThatTouchNone cX5_armsThatTouchNone 5 (some .int) ({ frames := 3, cells := 0, slots := 0, locals := 69 }) (D, TY cI cZ cC cS) [.ref hSV, .int p0] [(hNW, .inr (3, [.int NWru, .int NWco, .ref hNWk, .ref hNWt, .ref hNWm, .ref hNWc])), (hNWm, .inl (cI, 30, .inl NWMa)), (hCA, .inr (0, [.ref hNW, .ref hCAo, .ref hCAp])), (hCAo, .inl (cI, 150, .inl CAow)), (hCAp, .inl (cI, 150, .inl CApa)), (hSV, .inr (4, [.ref hCA, .ref hSVr, .ref hSVq, .ref hSVm]))] (jw_P (some (.int out)) [(hNW, .inr (3, [.int NWru, .int NWco, .ref hNWk, .ref hNWt, .ref hNWm, .ref hNWc])), (hNWm, .inl (cI, 30, .inl NWMa)), (hCA, .inr (0, [.ref hNW, .ref hCAo, .ref hCAp])), (hCAo, .inl (cI, 150, .inl CAow)), (hCAp, .inl (cI, 150, .inl CApa)), (hSV, .inr (4, [.ref hCA, .ref hSVr, .ref hSVq, .ref hSVm]))]) 0 0 := by
  refine ct_of RX5 (by decide +kernel) rfl (Nat.le_of_ble_eq_true rfl) (fun j cx => ?_)
  unfold f_X5_armsThatTouchNone at hm
  show j 0 0 [(hNW, .inr (3, [.int NWru, .int NWco, .ref hNWk, .ref hNWt, .ref hNWm, .ref hNWc])), (hNWm, .inl (cI, 30, .inl NWMa)), (hCA, .inr (0, [.ref hNW, .ref hCAo, .ref hCAp])), (hCAo, .inl (cI, 150, .inl CAow)), (hCAp, .inl (cI, 150, .inl CApa)), (hSV, .inr (4, [.ref hCA, .ref hSVr, .ref hSVq, .ref hSVm]))] [(0, .ref hSV), (1, .int p0)] 0 []
  refine j_iconst (pc' := 1) cx 0 dX5_armsThatTouchNone_0 ki_0 rfl ?_
  refine j_istore_n (lv' := [(2, .int 0), (0, .ref hSV), (1, .int p0)]) (pc' := 2) cx dX5_armsThatTouchNone_1 (by decide) rfl rfl ?_
  refine j_iconst (pc' := 3) cx 0 dX5_armsThatTouchNone_2 ki_0 rfl ?_
  refine j_istore_n (lv' := [(3, .int 0), (2, .int 0), (0, .ref hSV), (1, .int p0)]) (pc' := 4) cx dX5_armsThatTouchNone_3 (by decide) rfl rfl ?_
  obtain ⟨e2, h_1, h_2⟩ := bd_s hm
  have KXe2 : j 0 0 [(hNW, .inr (3, [.int NWru, .int NWco, .ref hNWk, .ref hNWt, .ref hNWm, .ref hNWc])), (hNWm, .inl (cI, 30, .inl NWMa)), (hCA, .inr (0, [.ref hNW, .ref hCAo, .ref hCAp])), (hCAo, .inl (cI, 150, .inl CAow)), (hCAp, .inl (cI, 150, .inl CApa)), (hSV, .inr (4, [.ref hCA, .ref hSVr, .ref hSVq, .ref hSVm]))] [(2, .int e2.1)] 46 [] := by
    refine j_iload_n (pc' := 47) cx 0 dX5_armsThatTouchNone_46 rfl rfl ?_
    have h_3 := so_i h_2
    subst h_3
    exact j_ret cx (Or.inr (Or.inl ⟨_, _, rfl, rfl, dX5_armsThatTouchNone_47, rfl, rfl⟩)) ⟨rfl, rfl⟩
  have LPe2 : ∀ (n : Nat) (s1 : Int32 × Int32), lp (f_X5_armsThatTouchNone_b1 NWMa CAow CApa p0) n s1 = some e2 → j 0 0 [(hNW, .inr (3, [.int NWru, .int NWco, .ref hNWk, .ref hNWt, .ref hNWm, .ref hNWc])), (hNWm, .inl (cI, 30, .inl NWMa)), (hCA, .inr (0, [.ref hNW, .ref hCAo, .ref hCAp])), (hCAo, .inl (cI, 150, .inl CAow)), (hCAp, .inl (cI, 150, .inl CApa)), (hSV, .inr (4, [.ref hCA, .ref hSVr, .ref hSVq, .ref hSVm]))] [(0, .ref hSV), (1, .int p0), (2, .int s1.1), (3, .int s1.2)] 4 [] := by
    intro n
    induction n with
    | zero => intro s1 z; exact absurd z (by intro z; cases z)
    | succ n ihe2 =>
      intro s1 h_4
      obtain ⟨q_5, h_6, h_7⟩ := bd_s h_4
      unfold f_X5_armsThatTouchNone_b1 at h_6
      refine j_iload_n (pc' := 5) cx 3 dX5_armsThatTouchNone_4 rfl rfl ?_
      refine j_iconst (pc' := 6) cx 4 dX5_armsThatTouchNone_5 ki_4 rfl ?_
      refine j_icmp_ge (tgt := 46) (pc' := 9) cx dX5_armsThatTouchNone_6 (by decide) rfl (fun ch_6 => ?_) (fun ch_6 => ?_)
      · have h_8 := it_t h_6 ch_6
        have h_9 := so_i h_8
        subst h_9
        have h_10 := so_i (se_r h_7)
        subst h_10
        refine j_lv (lv' := [(2, .int s1.1)]) cx [2] rfl ?_
        exact KXe2
      · have h_11 := it_f h_6 ch_6
        refine j_aload_n (pc' := 10) cx 0 dX5_armsThatTouchNone_9 rfl rfl ?_
        refine j_get (C := RX5) (T := TX5) (N := 4) (pc' := 13) cx uB_X5 5 rfl rfl 0 (by decide) wF_X5_12 (.ref hCA) rfl dX5_armsThatTouchNone_10 rfl ?_
        refine j_get (C := RX1) (T := TX1) (N := 3) (pc' := 16) cx uB_X1 2 rfl rfl 0 (by decide) wF_X5_42 (.ref hNW) rfl dX5_armsThatTouchNone_13 rfl ?_
        refine j_get (C := RX4) (T := TX4) (N := 6) (pc' := 19) cx uB_X4 0 rfl rfl 4 (by decide) wF_X5_46 (.ref hNWm) rfl dX5_armsThatTouchNone_16 rfl ?_
        refine j_iload_n (pc' := 20) cx 1 dX5_armsThatTouchNone_19 rfl rfl ?_
        obtain ⟨i3, h_12⟩ := ck_s h_11
        refine j_iald (pc' := 21) cx 1 0 rfl rfl i3 dX5_armsThatTouchNone_20 rfl ?_
        refine j_iload_n (pc' := 22) cx 3 dX5_armsThatTouchNone_21 rfl rfl ?_
        obtain ⟨r4, c5, h_13⟩ := bd_s h_12
        refine j_cS (pc' := 25) cx (c_X0_beside l D cI cZ cC cS (NWMa p0.toNatClampNeg) s1.2 r4 c5) 2 yk_X0_beside wM_X5_29 ⟨wT_X0_beside, wI_X0, wC_X0_beside⟩ ⟨rfl, rfl, Nat.le_of_ble_eq_true rfl, Nat.le_of_ble_eq_true rfl, Nat.le_of_ble_eq_true rfl, Nat.le_of_ble_eq_true rfl⟩ [] [0, 1, 2, 3, 4, 5] [0, 1, 2, 3, 4, 5] rfl [(hNW, .inr (3, [.int NWru, .int NWco, .ref hNWk, .ref hNWt, .ref hNWm, .ref hNWc])), (hNWm, .inl (cI, 30, .inl NWMa)), (hCA, .inr (0, [.ref hNW, .ref hCAo, .ref hCAp])), (hCAo, .inl (cI, 150, .inl CAow)), (hCAp, .inl (cI, 150, .inl CApa)), (hSV, .inr (4, [.ref hCA, .ref hSVr, .ref hSVq, .ref hSVm]))] rfl (by decide) [(hNW, .inr (3, [.int NWru, .int NWco, .ref hNWk, .ref hNWt, .ref hNWm, .ref hNWc])), (hNWm, .inl (cI, 30, .inl NWMa)), (hCA, .inr (0, [.ref hNW, .ref hCAo, .ref hCAp])), (hCAo, .inl (cI, 150, .inl CAow)), (hCAp, .inl (cI, 150, .inl CApa)), (hSV, .inr (4, [.ref hCA, .ref hSVr, .ref hSVq, .ref hSVm]))] rfl (by decide) rfl rfl (Nat.le_of_ble_eq_true rfl) dX5_armsThatTouchNone_22 rfl ?_
        refine j_istore (lv' := [(4, .int r4), (0, .ref hSV), (1, .int p0), (2, .int s1.1), (3, .int s1.2)]) (pc' := 27) cx dX5_armsThatTouchNone_25 (by decide) rfl rfl ?_
        refine j_aload_n (pc' := 28) cx 1 dX5_armsThatTouchNone_27 rfl rfl ?_
        refine j_iload (pc' := 30) cx 0 dX5_armsThatTouchNone_28 rfl rfl ?_
        refine j_iload_n (pc' := 31) cx 2 dX5_armsThatTouchNone_30 rfl rfl ?_
        obtain ⟨r6, c7, h_14⟩ := bd_s h_13
        refine j_cV (pc' := 34) cx (c_X5_touchesOfArm l D cI cZ cC cS hNW hCA hCAo hCAp hSV hSVr hSVq hSVm CAow CApa r4 p0 r6 c7) 2 yk_X5_touchesOfArm wM_X5_39 ⟨wN_X5_touchesOfArm, wS_X5_touchesOfArm, wI_X5, wC_X5_touchesOfArm⟩ ⟨rfl, rfl, Nat.le_of_ble_eq_true rfl, Nat.le_of_ble_eq_true rfl, Nat.le_of_ble_eq_true rfl, Nat.le_of_ble_eq_true rfl⟩ [2, 3, 4, 5] [0, 1] [0, 1, 2, 3, 4, 5] rfl [(hNW, .inr (3, [.int NWru, .int NWco, .ref hNWk, .ref hNWt, .ref hNWm, .ref hNWc])), (hNWm, .inl (cI, 30, .inl NWMa))] rfl (by decide) [(hNW, .inr (3, [.int NWru, .int NWco, .ref hNWk, .ref hNWt, .ref hNWm, .ref hNWc])), (hNWm, .inl (cI, 30, .inl NWMa)), (hCA, .inr (0, [.ref hNW, .ref hCAo, .ref hCAp])), (hCAo, .inl (cI, 150, .inl CAow)), (hCAp, .inl (cI, 150, .inl CApa)), (hSV, .inr (4, [.ref hCA, .ref hSVr, .ref hSVq, .ref hSVm]))] rfl (by decide) 5 4 rfl rfl rfl rfl rfl (Nat.le_of_ble_eq_true rfl) dX5_armsThatTouchNone_31 rfl ?_
        obtain ⟨t8, h_16, h_15⟩ := bd_s h_14
        have Kt8 : j 0 0 [(hNW, .inr (3, [.int NWru, .int NWco, .ref hNWk, .ref hNWt, .ref hNWm, .ref hNWc])), (hNWm, .inl (cI, 30, .inl NWMa)), (hCA, .inr (0, [.ref hNW, .ref hCAo, .ref hCAp])), (hCAo, .inl (cI, 150, .inl CAow)), (hCAp, .inl (cI, 150, .inl CApa)), (hSV, .inr (4, [.ref hCA, .ref hSVr, .ref hSVq, .ref hSVm]))] [(0, .ref hSV), (1, .int p0), (2, .int t8), (3, .int s1.2)] 40 [] := by
          refine j_iinc (v := (s1.2 + 1)) (lv' := [(3, .int (s1.2 + 1)), (0, .ref hSV), (1, .int p0), (2, .int t8)]) (pc' := 43) cx 3 dX5_armsThatTouchNone_40 rfl (kn_1 _) (by decide) rfl rfl ?_
          refine j_goto (pc' := 4) cx dX5_armsThatTouchNone_43 (by decide) ?_
          have h_17 := so_i h_15
          subst h_17
          refine j_lv (lv' := [(0, .ref hSV), (1, .int p0), (2, .int t8), (3, .int (s1.2 + 1))]) cx [1, 2, 3, 0] rfl ?_
          exact ihe2 _ (se_l h_7)
        refine j_if_ne (tgt := 40) (pc' := 37) cx dX5_armsThatTouchNone_34 (by decide) rfl (fun ch_16 => ?_) (fun ch_16 => ?_)
        · have h_18 := it_f h_16 ch_16
          have h_19 := so_i h_18
          subst h_19
          refine j_lv (lv' := [(0, .ref hSV), (1, .int p0), (2, .int s1.1), (3, .int s1.2)]) cx [1, 2, 3, 4] rfl ?_
          exact Kt8
        · have h_20 := it_t h_16 ch_16
          refine j_iinc (v := (s1.1 + 1)) (lv' := [(2, .int (s1.1 + 1)), (4, .int r4), (0, .ref hSV), (1, .int p0), (3, .int s1.2)]) (pc' := 40) cx 3 dX5_armsThatTouchNone_37 rfl (kn_1 _) (by decide) rfl rfl ?_
          have h_21 := so_i h_20
          subst h_21
          refine j_lv (lv' := [(0, .ref hSV), (1, .int p0), (2, .int (s1.1 + 1)), (3, .int s1.2)]) cx [2, 3, 0, 4] rfl ?_
          exact Kt8
  refine j_lv (lv' := [(0, .ref hSV), (1, .int p0), (2, .int 0), (3, .int 0)]) cx [2, 3, 1, 0] rfl ?_
  exact LPe2 _ _ h_1
set_option maxHeartbeats 4000000 in
set_option maxRecDepth 100000 in
theorem c_X5_waysToTurn (l : Launch) (D : va_G) (cI cZ cC cS : ClassId) (hNW hNWk hNWt hNWm hNWc hCA hCAo hCAp hSV hSVr hSVq hSVm : Nat) (NWru : Int32) (NWco : Int32) (NWKa : Nat → Int32) (NWTa : Nat → Int32) (NWMa : Nat → Int32) (NWCa : Nat → Int32) (CAow : Nat → Int32) (CApa : Nat → Int32) (p0 : Int32) (out : Int32) (hm : f_X5_waysToTurn NWru NWKa NWTa NWMa NWCa CAow CApa p0 = some out) : Ct l yX5_waysToTurn cX5_waysToTurn 5 (some .int) ({ frames := 3, cells := 0, slots := 0, locals := 75 }) (D, TY cI cZ cC cS) [.ref hSV, .int p0] [(hNW, .inr (3, [.int NWru, .int NWco, .ref hNWk, .ref hNWt, .ref hNWm, .ref hNWc])), (hNWk, .inl (cI, 30, .inl NWKa)), (hNWt, .inl (cI, 30, .inl NWTa)), (hNWm, .inl (cI, 30, .inl NWMa)), (hNWc, .inl (cI, 24, .inl NWCa)), (hCA, .inr (0, [.ref hNW, .ref hCAo, .ref hCAp])), (hCAo, .inl (cI, 150, .inl CAow)), (hCAp, .inl (cI, 150, .inl CApa)), (hSV, .inr (4, [.ref hCA, .ref hSVr, .ref hSVq, .ref hSVm]))] (jw_P (some (.int out)) [(hNW, .inr (3, [.int NWru, .int NWco, .ref hNWk, .ref hNWt, .ref hNWm, .ref hNWc])), (hNWk, .inl (cI, 30, .inl NWKa)), (hNWt, .inl (cI, 30, .inl NWTa)), (hNWm, .inl (cI, 30, .inl NWMa)), (hNWc, .inl (cI, 24, .inl NWCa)), (hCA, .inr (0, [.ref hNW, .ref hCAo, .ref hCAp])), (hCAo, .inl (cI, 150, .inl CAow)), (hCAp, .inl (cI, 150, .inl CApa)), (hSV, .inr (4, [.ref hCA, .ref hSVr, .ref hSVq, .ref hSVm]))]) 0 0 := by
  refine ct_of RX5 (by decide +kernel) rfl (Nat.le_of_ble_eq_true rfl) (fun j cx => ?_)
  unfold f_X5_waysToTurn at hm
  show j 0 0 [(hNW, .inr (3, [.int NWru, .int NWco, .ref hNWk, .ref hNWt, .ref hNWm, .ref hNWc])), (hNWk, .inl (cI, 30, .inl NWKa)), (hNWt, .inl (cI, 30, .inl NWTa)), (hNWm, .inl (cI, 30, .inl NWMa)), (hNWc, .inl (cI, 24, .inl NWCa)), (hCA, .inr (0, [.ref hNW, .ref hCAo, .ref hCAp])), (hCAo, .inl (cI, 150, .inl CAow)), (hCAp, .inl (cI, 150, .inl CApa)), (hSV, .inr (4, [.ref hCA, .ref hSVr, .ref hSVq, .ref hSVm]))] [(0, .ref hSV), (1, .int p0)] 0 []
  refine j_aload_n (pc' := 1) cx 0 dX5_waysToTurn_0 rfl rfl ?_
  refine j_get (C := RX5) (T := TX5) (N := 4) (pc' := 4) cx uB_X5 8 rfl rfl 0 (by decide) wF_X5_12 (.ref hCA) rfl dX5_waysToTurn_1 rfl ?_
  refine j_get (C := RX1) (T := TX1) (N := 3) (pc' := 7) cx uB_X1 5 rfl rfl 0 (by decide) wF_X5_42 (.ref hNW) rfl dX5_waysToTurn_4 rfl ?_
  refine j_astore_n (lv' := [(2, .ref hNW), (0, .ref hSV), (1, .int p0)]) (pc' := 8) cx dX5_waysToTurn_7 (by decide) rfl rfl ?_
  refine j_iconst (pc' := 9) cx 0 dX5_waysToTurn_8 ki_0 rfl ?_
  refine j_istore_n (lv' := [(3, .int 0), (2, .ref hNW), (0, .ref hSV), (1, .int p0)]) (pc' := 10) cx dX5_waysToTurn_9 (by decide) rfl rfl ?_
  refine j_iconst (pc' := 11) cx 0 dX5_waysToTurn_10 ki_0 rfl ?_
  refine j_istore (lv' := [(4, .int 0), (3, .int 0), (2, .ref hNW), (0, .ref hSV), (1, .int p0)]) (pc' := 13) cx dX5_waysToTurn_11 (by decide) rfl rfl ?_
  obtain ⟨e2, h_1, h_2⟩ := bd_s hm
  have KXe2 : j 0 0 [(hNW, .inr (3, [.int NWru, .int NWco, .ref hNWk, .ref hNWt, .ref hNWm, .ref hNWc])), (hNWk, .inl (cI, 30, .inl NWKa)), (hNWt, .inl (cI, 30, .inl NWTa)), (hNWm, .inl (cI, 30, .inl NWMa)), (hNWc, .inl (cI, 24, .inl NWCa)), (hCA, .inr (0, [.ref hNW, .ref hCAo, .ref hCAp])), (hCAo, .inl (cI, 150, .inl CAow)), (hCAp, .inl (cI, 150, .inl CApa)), (hSV, .inr (4, [.ref hCA, .ref hSVr, .ref hSVq, .ref hSVm]))] [(3, .int e2.1)] 53 [] := by
    refine j_iload_n (pc' := 54) cx 0 dX5_waysToTurn_53 rfl rfl ?_
    have h_3 := so_i h_2
    subst h_3
    exact j_ret cx (Or.inr (Or.inl ⟨_, _, rfl, rfl, dX5_waysToTurn_54, rfl, rfl⟩)) ⟨rfl, rfl⟩
  have LPe2 : ∀ (n : Nat) (s1 : Int32 × Int32), lp (f_X5_waysToTurn_b1 NWru NWKa NWTa NWMa NWCa CAow CApa p0) n s1 = some e2 → j 0 0 [(hNW, .inr (3, [.int NWru, .int NWco, .ref hNWk, .ref hNWt, .ref hNWm, .ref hNWc])), (hNWk, .inl (cI, 30, .inl NWKa)), (hNWt, .inl (cI, 30, .inl NWTa)), (hNWm, .inl (cI, 30, .inl NWMa)), (hNWc, .inl (cI, 24, .inl NWCa)), (hCA, .inr (0, [.ref hNW, .ref hCAo, .ref hCAp])), (hCAo, .inl (cI, 150, .inl CAow)), (hCAp, .inl (cI, 150, .inl CApa)), (hSV, .inr (4, [.ref hCA, .ref hSVr, .ref hSVq, .ref hSVm]))] [(0, .ref hSV), (1, .int p0), (2, .ref hNW), (3, .int s1.1), (4, .int s1.2)] 13 [] := by
    intro n
    induction n with
    | zero => intro s1 z; exact absurd z (by intro z; cases z)
    | succ n ihe2 =>
      intro s1 h_4
      obtain ⟨q_5, h_6, h_7⟩ := bd_s h_4
      unfold f_X5_waysToTurn_b1 at h_6
      refine j_iload (pc' := 15) cx 4 dX5_waysToTurn_13 rfl rfl ?_
      refine j_iconst (pc' := 16) cx 4 dX5_waysToTurn_15 ki_4 rfl ?_
      refine j_icmp_ge (tgt := 53) (pc' := 19) cx dX5_waysToTurn_16 (by decide) rfl (fun ch_6 => ?_) (fun ch_6 => ?_)
      · have h_8 := it_t h_6 ch_6
        have h_9 := so_i h_8
        subst h_9
        have h_10 := so_i (se_r h_7)
        subst h_10
        refine j_lv (lv' := [(3, .int s1.1)]) cx [3] rfl ?_
        exact KXe2
      · have h_11 := it_f h_6 ch_6
        refine j_aload_n (pc' := 20) cx 0 dX5_waysToTurn_19 rfl rfl ?_
        refine j_get (C := RX5) (T := TX5) (N := 4) (pc' := 23) cx uB_X5 8 rfl rfl 0 (by decide) wF_X5_12 (.ref hCA) rfl dX5_waysToTurn_20 rfl ?_
        refine j_aload_n (pc' := 24) cx 2 dX5_waysToTurn_23 rfl rfl ?_
        refine j_get (C := RX4) (T := TX4) (N := 6) (pc' := 27) cx uB_X4 0 rfl rfl 2 (by decide) wF_X5_59 (.ref hNWk) rfl dX5_waysToTurn_24 rfl ?_
        refine j_iload_n (pc' := 28) cx 1 dX5_waysToTurn_27 rfl rfl ?_
        obtain ⟨i3, h_12⟩ := ck_s h_11
        refine j_iald (pc' := 29) cx 1 0 rfl rfl i3 dX5_waysToTurn_28 rfl ?_
        refine j_iload (pc' := 31) cx 4 dX5_waysToTurn_29 rfl rfl ?_
        refine j_aload_n (pc' := 32) cx 2 dX5_waysToTurn_31 rfl rfl ?_
        refine j_get (C := RX4) (T := TX4) (N := 6) (pc' := 35) cx uB_X4 0 rfl rfl 4 (by decide) wF_X5_46 (.ref hNWm) rfl dX5_waysToTurn_32 rfl ?_
        refine j_iload_n (pc' := 36) cx 1 dX5_waysToTurn_35 rfl rfl ?_
        obtain ⟨i4, h_13⟩ := ck_s h_12
        refine j_iald (pc' := 37) cx 3 0 rfl rfl i4 dX5_waysToTurn_36 rfl ?_
        refine j_iload_n (pc' := 38) cx 1 dX5_waysToTurn_37 rfl rfl ?_
        obtain ⟨r5, c6, h_14⟩ := bd_s h_13
        refine j_cV (pc' := 41) cx (c_X1_wouldClash l D cI cZ cC cS hNW hNWk hNWt hNWm hNWc hCA hCAo hCAp NWru NWco NWKa NWTa NWCa CAow CApa (NWKa p0.toNatClampNeg) s1.2 (NWMa p0.toNatClampNeg) p0 r5 c6) 4 yk_X1_wouldClash wM_X5_62 ⟨wN_X1_wouldClash, wS_X1_wouldClash, wI_X1, wC_X1_wouldClash⟩ ⟨rfl, rfl, Nat.le_of_ble_eq_true rfl, Nat.le_of_ble_eq_true rfl, Nat.le_of_ble_eq_true rfl, Nat.le_of_ble_eq_true rfl⟩ [0, 1, 2, 4, 5, 6, 7] [3, 8] [2, 3, 4, 0, 5, 6, 7, 8, 1] rfl [(hNWm, .inl (cI, 30, .inl NWMa)), (hSV, .inr (4, [.ref hCA, .ref hSVr, .ref hSVq, .ref hSVm]))] rfl (by decide) [(hNW, .inr (3, [.int NWru, .int NWco, .ref hNWk, .ref hNWt, .ref hNWm, .ref hNWc])), (hNWk, .inl (cI, 30, .inl NWKa)), (hNWt, .inl (cI, 30, .inl NWTa)), (hNWm, .inl (cI, 30, .inl NWMa)), (hNWc, .inl (cI, 24, .inl NWCa)), (hCA, .inr (0, [.ref hNW, .ref hCAo, .ref hCAp])), (hCAo, .inl (cI, 150, .inl CAow)), (hCAp, .inl (cI, 150, .inl CApa)), (hSV, .inr (4, [.ref hCA, .ref hSVr, .ref hSVq, .ref hSVm]))] rfl (by decide) 5 0 rfl rfl rfl rfl rfl (Nat.le_of_ble_eq_true rfl) dX5_waysToTurn_38 rfl ?_
        obtain ⟨t7, h_16, h_15⟩ := bd_s h_14
        have Kt7 : j 0 0 [(hNW, .inr (3, [.int NWru, .int NWco, .ref hNWk, .ref hNWt, .ref hNWm, .ref hNWc])), (hNWk, .inl (cI, 30, .inl NWKa)), (hNWt, .inl (cI, 30, .inl NWTa)), (hNWm, .inl (cI, 30, .inl NWMa)), (hNWc, .inl (cI, 24, .inl NWCa)), (hCA, .inr (0, [.ref hNW, .ref hCAo, .ref hCAp])), (hCAo, .inl (cI, 150, .inl CAow)), (hCAp, .inl (cI, 150, .inl CApa)), (hSV, .inr (4, [.ref hCA, .ref hSVr, .ref hSVq, .ref hSVm]))] [(0, .ref hSV), (1, .int p0), (2, .ref hNW), (3, .int t7), (4, .int s1.2)] 47 [] := by
          refine j_iinc (v := (s1.2 + 1)) (lv' := [(4, .int (s1.2 + 1)), (0, .ref hSV), (1, .int p0), (2, .ref hNW), (3, .int t7)]) (pc' := 50) cx 4 dX5_waysToTurn_47 rfl (kn_1 _) (by decide) rfl rfl ?_
          refine j_goto (pc' := 13) cx dX5_waysToTurn_50 (by decide) ?_
          have h_17 := so_i h_15
          subst h_17
          refine j_lv (lv' := [(0, .ref hSV), (1, .int p0), (2, .ref hNW), (3, .int t7), (4, .int (s1.2 + 1))]) cx [1, 2, 3, 4, 0] rfl ?_
          exact ihe2 _ (se_l h_7)
        refine j_if_ne (tgt := 47) (pc' := 44) cx dX5_waysToTurn_41 (by decide) rfl (fun ch_16 => ?_) (fun ch_16 => ?_)
        · have h_18 := it_f h_16 ch_16
          have h_19 := so_i h_18
          subst h_19
          exact Kt7
        · have h_20 := it_t h_16 ch_16
          refine j_iinc (v := (s1.1 + 1)) (lv' := [(3, .int (s1.1 + 1)), (0, .ref hSV), (1, .int p0), (2, .ref hNW), (4, .int s1.2)]) (pc' := 47) cx 3 dX5_waysToTurn_44 rfl (kn_1 _) (by decide) rfl rfl ?_
          have h_21 := so_i h_20
          subst h_21
          refine j_lv (lv' := [(0, .ref hSV), (1, .int p0), (2, .ref hNW), (3, .int (s1.1 + 1)), (4, .int s1.2)]) cx [1, 2, 3, 0, 4] rfl ?_
          exact Kt7
  refine j_lv (lv' := [(0, .ref hSV), (1, .int p0), (2, .ref hNW), (3, .int 0), (4, .int 0)]) cx [3, 4, 2, 1, 0] rfl ?_
  exact LPe2 _ _ h_1
set_option maxHeartbeats 4000000 in
set_option maxRecDepth 100000 in
theorem c_X5_touches (l : Launch) (D : va_G) (cI cZ cC cS : ClassId) (hNW hNWk hNWt hNWm hNWc hCA hCAo hCAp hSV hSVr hSVq hSVm : Nat) (NWru : Int32) (NWco : Int32) (NWMa : Nat → Int32) (CAow : Nat → Int32) (CApa : Nat → Int32) (out : Int32) (hm : f_X5_touches NWco NWMa CAow CApa = some out) : Ct l yX5_touches cX5_touches 3 (some .int) ({ frames := 4, cells := 0, slots := 0, locals := 93 }) (D, TY cI cZ cC cS) [.ref hSV] [(hNW, .inr (3, [.int NWru, .int NWco, .ref hNWk, .ref hNWt, .ref hNWm, .ref hNWc])), (hNWm, .inl (cI, 30, .inl NWMa)), (hCA, .inr (0, [.ref hNW, .ref hCAo, .ref hCAp])), (hCAo, .inl (cI, 150, .inl CAow)), (hCAp, .inl (cI, 150, .inl CApa)), (hSV, .inr (4, [.ref hCA, .ref hSVr, .ref hSVq, .ref hSVm]))] (jw_P (some (.int out)) [(hNW, .inr (3, [.int NWru, .int NWco, .ref hNWk, .ref hNWt, .ref hNWm, .ref hNWc])), (hNWm, .inl (cI, 30, .inl NWMa)), (hCA, .inr (0, [.ref hNW, .ref hCAo, .ref hCAp])), (hCAo, .inl (cI, 150, .inl CAow)), (hCAp, .inl (cI, 150, .inl CApa)), (hSV, .inr (4, [.ref hCA, .ref hSVr, .ref hSVq, .ref hSVm]))]) 0 0 := by
  refine ct_of RX5 (by decide +kernel) rfl (Nat.le_of_ble_eq_true rfl) (fun j cx => ?_)
  unfold f_X5_touches at hm
  show j 0 0 [(hNW, .inr (3, [.int NWru, .int NWco, .ref hNWk, .ref hNWt, .ref hNWm, .ref hNWc])), (hNWm, .inl (cI, 30, .inl NWMa)), (hCA, .inr (0, [.ref hNW, .ref hCAo, .ref hCAp])), (hCAo, .inl (cI, 150, .inl CAow)), (hCAp, .inl (cI, 150, .inl CApa)), (hSV, .inr (4, [.ref hCA, .ref hSVr, .ref hSVq, .ref hSVm]))] [(0, .ref hSV)] 0 []
  refine j_iconst (pc' := 1) cx 0 dX5_touches_0 ki_0 rfl ?_
  refine j_istore_n (lv' := [(1, .int 0), (0, .ref hSV)]) (pc' := 2) cx dX5_touches_1 (by decide) rfl rfl ?_
  refine j_iconst (pc' := 3) cx 0 dX5_touches_2 ki_0 rfl ?_
  refine j_istore_n (lv' := [(2, .int 0), (1, .int 0), (0, .ref hSV)]) (pc' := 4) cx dX5_touches_3 (by decide) rfl rfl ?_
  obtain ⟨e2, h_1, h_2⟩ := bd_s hm
  have KXe2 : j 0 0 [(hNW, .inr (3, [.int NWru, .int NWco, .ref hNWk, .ref hNWt, .ref hNWm, .ref hNWc])), (hNWm, .inl (cI, 30, .inl NWMa)), (hCA, .inr (0, [.ref hNW, .ref hCAo, .ref hCAp])), (hCAo, .inl (cI, 150, .inl CAow)), (hCAp, .inl (cI, 150, .inl CApa)), (hSV, .inr (4, [.ref hCA, .ref hSVr, .ref hSVq, .ref hSVm]))] [(1, .int e2.1)] 44 [] := by
    refine j_iload_n (pc' := 45) cx 0 dX5_touches_44 rfl rfl ?_
    refine j_iconst (pc' := 46) cx 2 dX5_touches_45 ki_2 rfl ?_
    refine j_idiv (pc' := 47) cx dX5_touches_46 kz_2 rfl ?_
    have h_3 := so_i h_2
    subst h_3
    exact j_ret cx (Or.inr (Or.inl ⟨_, _, rfl, rfl, dX5_touches_47, rfl, rfl⟩)) ⟨rfl, rfl⟩
  have LPe2 : ∀ (n : Nat) (s1 : Int32 × Int32), lp (f_X5_touches_b1 NWco NWMa CAow CApa) n s1 = some e2 → j 0 0 [(hNW, .inr (3, [.int NWru, .int NWco, .ref hNWk, .ref hNWt, .ref hNWm, .ref hNWc])), (hNWm, .inl (cI, 30, .inl NWMa)), (hCA, .inr (0, [.ref hNW, .ref hCAo, .ref hCAp])), (hCAo, .inl (cI, 150, .inl CAow)), (hCAp, .inl (cI, 150, .inl CApa)), (hSV, .inr (4, [.ref hCA, .ref hSVr, .ref hSVq, .ref hSVm]))] [(0, .ref hSV), (1, .int s1.1), (2, .int s1.2)] 4 [] := by
    intro n
    induction n with
    | zero => intro s1 z; exact absurd z (by intro z; cases z)
    | succ n ihe2 =>
      intro s1 h_4
      obtain ⟨q_5, h_6, h_7⟩ := bd_s h_4
      unfold f_X5_touches_b1 at h_6
      refine j_iload_n (pc' := 5) cx 2 dX5_touches_4 rfl rfl ?_
      refine j_aload_n (pc' := 6) cx 0 dX5_touches_5 rfl rfl ?_
      refine j_get (C := RX5) (T := TX5) (N := 4) (pc' := 9) cx uB_X5 5 rfl rfl 0 (by decide) wF_X5_12 (.ref hCA) rfl dX5_touches_6 rfl ?_
      refine j_get (C := RX1) (T := TX1) (N := 3) (pc' := 12) cx uB_X1 2 rfl rfl 0 (by decide) wF_X5_42 (.ref hNW) rfl dX5_touches_9 rfl ?_
      refine j_get (C := RX4) (T := TX4) (N := 6) (pc' := 15) cx uB_X4 0 rfl rfl 1 (by decide) wF_X5_66 (.int NWco) rfl dX5_touches_12 rfl ?_
      refine j_icmp_ge (tgt := 44) (pc' := 18) cx dX5_touches_15 (by decide) rfl (fun ch_6 => ?_) (fun ch_6 => ?_)
      · have h_8 := it_t h_6 ch_6
        have h_9 := so_i h_8
        subst h_9
        have h_10 := so_i (se_r h_7)
        subst h_10
        refine j_lv (lv' := [(1, .int s1.1)]) cx [1] rfl ?_
        exact KXe2
      · have h_11 := it_f h_6 ch_6
        refine j_iload_n (pc' := 19) cx 1 dX5_touches_18 rfl rfl ?_
        refine j_aload_n (pc' := 20) cx 0 dX5_touches_19 rfl rfl ?_
        refine j_aload_n (pc' := 21) cx 0 dX5_touches_20 rfl rfl ?_
        refine j_get (C := RX5) (T := TX5) (N := 4) (pc' := 24) cx uB_X5 5 rfl rfl 0 (by decide) wF_X5_12 (.ref hCA) rfl dX5_touches_21 rfl ?_
        refine j_get (C := RX1) (T := TX1) (N := 3) (pc' := 27) cx uB_X1 2 rfl rfl 0 (by decide) wF_X5_42 (.ref hNW) rfl dX5_touches_24 rfl ?_
        refine j_get (C := RX4) (T := TX4) (N := 6) (pc' := 30) cx uB_X4 0 rfl rfl 4 (by decide) wF_X5_46 (.ref hNWm) rfl dX5_touches_27 rfl ?_
        refine j_iload_n (pc' := 31) cx 2 dX5_touches_30 rfl rfl ?_
        obtain ⟨i3, h_12⟩ := ck_s h_11
        refine j_iald (pc' := 32) cx 1 0 rfl rfl i3 dX5_touches_31 rfl ?_
        refine j_iload_n (pc' := 33) cx 2 dX5_touches_32 rfl rfl ?_
        obtain ⟨r4, c5, h_13⟩ := bd_s h_12
        refine j_cV (pc' := 36) cx (c_X5_touchesAt l D cI cZ cC cS hNW hCA hCAo hCAp hSV hSVr hSVq hSVm CAow CApa (NWMa s1.2.toNatClampNeg) s1.2 r4 c5) 2 yk_X5_touchesAt wM_X5_70 ⟨wN_X5_touchesAt, wS_X5_touchesAt, wI_X5, wC_X5_touchesAt⟩ ⟨rfl, rfl, Nat.le_of_ble_eq_true rfl, Nat.le_of_ble_eq_true rfl, Nat.le_of_ble_eq_true rfl, Nat.le_of_ble_eq_true rfl⟩ [2, 3, 4, 5] [0, 1] [0, 1, 2, 3, 4, 5] rfl [(hNW, .inr (3, [.int NWru, .int NWco, .ref hNWk, .ref hNWt, .ref hNWm, .ref hNWc])), (hNWm, .inl (cI, 30, .inl NWMa))] rfl (by decide) [(hNW, .inr (3, [.int NWru, .int NWco, .ref hNWk, .ref hNWt, .ref hNWm, .ref hNWc])), (hNWm, .inl (cI, 30, .inl NWMa)), (hCA, .inr (0, [.ref hNW, .ref hCAo, .ref hCAp])), (hCAo, .inl (cI, 150, .inl CAow)), (hCAp, .inl (cI, 150, .inl CApa)), (hSV, .inr (4, [.ref hCA, .ref hSVr, .ref hSVq, .ref hSVm]))] rfl (by decide) 5 4 rfl rfl rfl rfl rfl (Nat.le_of_ble_eq_true rfl) dX5_touches_33 rfl ?_
        refine j_iadd (pc' := 37) cx dX5_touches_36 rfl ?_
        refine j_istore_n (lv' := [(1, .int (s1.1 + r4)), (0, .ref hSV), (2, .int s1.2)]) (pc' := 38) cx dX5_touches_37 (by decide) rfl rfl ?_
        refine j_iinc (v := (s1.2 + 1)) (lv' := [(2, .int (s1.2 + 1)), (1, .int (s1.1 + r4)), (0, .ref hSV)]) (pc' := 41) cx 2 dX5_touches_38 rfl (kn_1 _) (by decide) rfl rfl ?_
        refine j_goto (pc' := 4) cx dX5_touches_41 (by decide) ?_
        have h_14 := so_i h_13
        subst h_14
        refine j_lv (lv' := [(0, .ref hSV), (1, .int (s1.1 + r4)), (2, .int (s1.2 + 1))]) cx [2, 1, 0] rfl ?_
        exact ihe2 _ (se_l h_7)
  refine j_lv (lv' := [(0, .ref hSV), (1, .int 0), (2, .int 0)]) cx [2, 1, 0] rfl ?_
  exact LPe2 _ _ h_1
set_option maxHeartbeats 4000000 in
set_option maxRecDepth 100000 in
theorem c_X5_likeTouchesOfArm (l : Launch) (D : va_G) (cI cZ cC cS : ClassId) (hNW hNWk hNWt hNWm hNWc hCA hCAo hCAp hSV hSVr hSVq hSVm : Nat) (NWru : Int32) (NWco : Int32) (NWKa : Nat → Int32) (NWTa : Nat → Int32) (NWMa : Nat → Int32) (NWCa : Nat → Int32) (CAow : Nat → Int32) (CApa : Nat → Int32) (p0 : Int32) (p1 : Int32) (out : Int32) (hm : f_X5_likeTouchesOfArm NWKa NWTa NWMa NWCa CAow CApa p0 p1 = some out) : Ct l yX5_likeTouchesOfArm cX5_likeTouchesOfArm 8 (some .int) ({ frames := 2, cells := 0, slots := 0, locals := 46 }) (D, TY cI cZ cC cS) [.ref hSV, .int p0, .int p1] [(hNW, .inr (3, [.int NWru, .int NWco, .ref hNWk, .ref hNWt, .ref hNWm, .ref hNWc])), (hNWk, .inl (cI, 30, .inl NWKa)), (hNWt, .inl (cI, 30, .inl NWTa)), (hNWm, .inl (cI, 30, .inl NWMa)), (hNWc, .inl (cI, 24, .inl NWCa)), (hCA, .inr (0, [.ref hNW, .ref hCAo, .ref hCAp])), (hCAo, .inl (cI, 150, .inl CAow)), (hCAp, .inl (cI, 150, .inl CApa)), (hSV, .inr (4, [.ref hCA, .ref hSVr, .ref hSVq, .ref hSVm]))] (jw_P (some (.int out)) [(hNW, .inr (3, [.int NWru, .int NWco, .ref hNWk, .ref hNWt, .ref hNWm, .ref hNWc])), (hNWk, .inl (cI, 30, .inl NWKa)), (hNWt, .inl (cI, 30, .inl NWTa)), (hNWm, .inl (cI, 30, .inl NWMa)), (hNWc, .inl (cI, 24, .inl NWCa)), (hCA, .inr (0, [.ref hNW, .ref hCAo, .ref hCAp])), (hCAo, .inl (cI, 150, .inl CAow)), (hCAp, .inl (cI, 150, .inl CApa)), (hSV, .inr (4, [.ref hCA, .ref hSVr, .ref hSVq, .ref hSVm]))]) 0 0 := by
  refine ct_of RX5 (by decide +kernel) rfl (Nat.le_of_ble_eq_true rfl) (fun j cx => ?_)
  unfold f_X5_likeTouchesOfArm at hm
  show j 0 0 [(hNW, .inr (3, [.int NWru, .int NWco, .ref hNWk, .ref hNWt, .ref hNWm, .ref hNWc])), (hNWk, .inl (cI, 30, .inl NWKa)), (hNWt, .inl (cI, 30, .inl NWTa)), (hNWm, .inl (cI, 30, .inl NWMa)), (hNWc, .inl (cI, 24, .inl NWCa)), (hCA, .inr (0, [.ref hNW, .ref hCAo, .ref hCAp])), (hCAo, .inl (cI, 150, .inl CAow)), (hCAp, .inl (cI, 150, .inl CApa)), (hSV, .inr (4, [.ref hCA, .ref hSVr, .ref hSVq, .ref hSVm]))] [(0, .ref hSV), (1, .int p0), (2, .int p1)] 0 []
  refine j_aload_n (pc' := 1) cx 0 dX5_likeTouchesOfArm_0 rfl rfl ?_
  refine j_get (C := RX5) (T := TX5) (N := 4) (pc' := 4) cx uB_X5 8 rfl rfl 0 (by decide) wF_X5_12 (.ref hCA) rfl dX5_likeTouchesOfArm_1 rfl ?_
  refine j_get (C := RX1) (T := TX1) (N := 3) (pc' := 7) cx uB_X1 5 rfl rfl 0 (by decide) wF_X5_42 (.ref hNW) rfl dX5_likeTouchesOfArm_4 rfl ?_
  refine j_get (C := RX4) (T := TX4) (N := 6) (pc' := 10) cx uB_X4 0 rfl rfl 4 (by decide) wF_X5_46 (.ref hNWm) rfl dX5_likeTouchesOfArm_7 rfl ?_
  refine j_iload_n (pc' := 11) cx 1 dX5_likeTouchesOfArm_10 rfl rfl ?_
  obtain ⟨i1, h_1⟩ := ck_s hm
  refine j_iald (pc' := 12) cx 3 0 rfl rfl i1 dX5_likeTouchesOfArm_11 rfl ?_
  refine j_iload_n (pc' := 13) cx 2 dX5_likeTouchesOfArm_12 rfl rfl ?_
  obtain ⟨r2, c3, h_2⟩ := bd_s h_1
  refine j_cS (pc' := 16) cx (c_X0_beside l D cI cZ cC cS (NWMa p0.toNatClampNeg) p1 r2 c3) 2 yk_X0_beside wM_X5_29 ⟨wT_X0_beside, wI_X0, wC_X0_beside⟩ ⟨rfl, rfl, Nat.le_of_ble_eq_true rfl, Nat.le_of_ble_eq_true rfl, Nat.le_of_ble_eq_true rfl, Nat.le_of_ble_eq_true rfl⟩ [] [0, 1, 2, 3, 4, 5, 6, 7, 8] [0, 1, 2, 3, 4, 5, 6, 7, 8] rfl [(hNW, .inr (3, [.int NWru, .int NWco, .ref hNWk, .ref hNWt, .ref hNWm, .ref hNWc])), (hNWk, .inl (cI, 30, .inl NWKa)), (hNWt, .inl (cI, 30, .inl NWTa)), (hNWm, .inl (cI, 30, .inl NWMa)), (hNWc, .inl (cI, 24, .inl NWCa)), (hCA, .inr (0, [.ref hNW, .ref hCAo, .ref hCAp])), (hCAo, .inl (cI, 150, .inl CAow)), (hCAp, .inl (cI, 150, .inl CApa)), (hSV, .inr (4, [.ref hCA, .ref hSVr, .ref hSVq, .ref hSVm]))] rfl (by decide) [(hNW, .inr (3, [.int NWru, .int NWco, .ref hNWk, .ref hNWt, .ref hNWm, .ref hNWc])), (hNWk, .inl (cI, 30, .inl NWKa)), (hNWt, .inl (cI, 30, .inl NWTa)), (hNWm, .inl (cI, 30, .inl NWMa)), (hNWc, .inl (cI, 24, .inl NWCa)), (hCA, .inr (0, [.ref hNW, .ref hCAo, .ref hCAp])), (hCAo, .inl (cI, 150, .inl CAow)), (hCAp, .inl (cI, 150, .inl CApa)), (hSV, .inr (4, [.ref hCA, .ref hSVr, .ref hSVq, .ref hSVm]))] rfl (by decide) rfl rfl (Nat.le_of_ble_eq_true rfl) dX5_likeTouchesOfArm_13 rfl ?_
  refine j_istore_n (lv' := [(3, .int r2), (0, .ref hSV), (1, .int p0), (2, .int p1)]) (pc' := 17) cx dX5_likeTouchesOfArm_16 (by decide) rfl rfl ?_
  refine j_aload_n (pc' := 18) cx 1 dX5_likeTouchesOfArm_17 rfl rfl ?_
  refine j_get (C := RX5) (T := TX5) (N := 4) (pc' := 21) cx uB_X5 8 rfl rfl 0 (by decide) wF_X5_12 (.ref hCA) rfl dX5_likeTouchesOfArm_18 rfl ?_
  refine j_iload_n (pc' := 22) cx 2 dX5_likeTouchesOfArm_21 rfl rfl ?_
  refine j_iload_n (pc' := 23) cx 3 dX5_likeTouchesOfArm_22 rfl rfl ?_
  obtain ⟨r4, c5, h_3⟩ := bd_s h_2
  refine j_cV (pc' := 26) cx (c_X1_colourShown l D cI cZ cC cS hNW hNWk hNWt hNWm hNWc hCA hCAo hCAp NWru NWco NWKa NWTa NWCa p0 p1 r4 c5) 2 yk_X1_colourShown wM_X5_113 ⟨wN_X1_colourShown, wS_X1_colourShown, wI_X1, wC_X1_colourShown⟩ ⟨rfl, rfl, Nat.le_of_ble_eq_true rfl, Nat.le_of_ble_eq_true rfl, Nat.le_of_ble_eq_true rfl, Nat.le_of_ble_eq_true rfl⟩ [0, 1, 2, 4, 5] [3, 6, 7, 8] [4, 5, 6, 0, 7, 8, 1, 2, 3] rfl [(hNWm, .inl (cI, 30, .inl NWMa)), (hCAo, .inl (cI, 150, .inl CAow)), (hCAp, .inl (cI, 150, .inl CApa)), (hSV, .inr (4, [.ref hCA, .ref hSVr, .ref hSVq, .ref hSVm]))] rfl (by decide) [(hNW, .inr (3, [.int NWru, .int NWco, .ref hNWk, .ref hNWt, .ref hNWm, .ref hNWc])), (hNWk, .inl (cI, 30, .inl NWKa)), (hNWt, .inl (cI, 30, .inl NWTa)), (hNWm, .inl (cI, 30, .inl NWMa)), (hNWc, .inl (cI, 24, .inl NWCa)), (hCA, .inr (0, [.ref hNW, .ref hCAo, .ref hCAp])), (hCAo, .inl (cI, 150, .inl CAow)), (hCAp, .inl (cI, 150, .inl CApa)), (hSV, .inr (4, [.ref hCA, .ref hSVr, .ref hSVq, .ref hSVm]))] rfl (by decide) 5 0 rfl rfl rfl rfl rfl (Nat.le_of_ble_eq_true rfl) dX5_likeTouchesOfArm_23 rfl ?_
  refine j_istore (lv' := [(4, .int r4), (3, .int r2), (0, .ref hSV), (1, .int p0), (2, .int p1)]) (pc' := 28) cx dX5_likeTouchesOfArm_26 (by decide) rfl rfl ?_
  refine j_iconst (pc' := 29) cx 0 dX5_likeTouchesOfArm_28 ki_0 rfl ?_
  refine j_istore (lv' := [(5, .int 0), (4, .int r4), (3, .int r2), (0, .ref hSV), (1, .int p0), (2, .int p1)]) (pc' := 31) cx dX5_likeTouchesOfArm_29 (by decide) rfl rfl ?_
  refine j_iconst (pc' := 32) cx 0 dX5_likeTouchesOfArm_31 ki_0 rfl ?_
  refine j_istore (lv' := [(6, .int 0), (5, .int 0), (4, .int r4), (3, .int r2), (0, .ref hSV), (1, .int p0), (2, .int p1)]) (pc' := 34) cx dX5_likeTouchesOfArm_32 (by decide) rfl rfl ?_
  obtain ⟨e7, h_4, h_5⟩ := bd_s h_3
  have KXe7 : j 0 0 [(hNW, .inr (3, [.int NWru, .int NWco, .ref hNWk, .ref hNWt, .ref hNWm, .ref hNWc])), (hNWk, .inl (cI, 30, .inl NWKa)), (hNWt, .inl (cI, 30, .inl NWTa)), (hNWm, .inl (cI, 30, .inl NWMa)), (hNWc, .inl (cI, 24, .inl NWCa)), (hCA, .inr (0, [.ref hNW, .ref hCAo, .ref hCAp])), (hCAo, .inl (cI, 150, .inl CAow)), (hCAp, .inl (cI, 150, .inl CApa)), (hSV, .inr (4, [.ref hCA, .ref hSVr, .ref hSVq, .ref hSVm]))] [(5, .int e7.1)] 100 [] := by
    refine j_iload (pc' := 102) cx 0 dX5_likeTouchesOfArm_100 rfl rfl ?_
    have h_6 := so_i h_5
    subst h_6
    exact j_ret cx (Or.inr (Or.inl ⟨_, _, rfl, rfl, dX5_likeTouchesOfArm_102, rfl, rfl⟩)) ⟨rfl, rfl⟩
  have LPe7 : ∀ (n : Nat) (s6 : Int32 × Int32), lp (f_X5_likeTouchesOfArm_b1 NWKa NWTa NWCa CAow CApa p0 r2 r4) n s6 = some e7 → j 0 0 [(hNW, .inr (3, [.int NWru, .int NWco, .ref hNWk, .ref hNWt, .ref hNWm, .ref hNWc])), (hNWk, .inl (cI, 30, .inl NWKa)), (hNWt, .inl (cI, 30, .inl NWTa)), (hNWm, .inl (cI, 30, .inl NWMa)), (hNWc, .inl (cI, 24, .inl NWCa)), (hCA, .inr (0, [.ref hNW, .ref hCAo, .ref hCAp])), (hCAo, .inl (cI, 150, .inl CAow)), (hCAp, .inl (cI, 150, .inl CApa)), (hSV, .inr (4, [.ref hCA, .ref hSVr, .ref hSVq, .ref hSVm]))] [(0, .ref hSV), (1, .int p0), (3, .int r2), (4, .int r4), (5, .int s6.1), (6, .int s6.2)] 34 [] := by
    intro n
    induction n with
    | zero => intro s6 z; exact absurd z (by intro z; cases z)
    | succ n ihe7 =>
      intro s6 h_7
      obtain ⟨q_8, h_9, h_10⟩ := bd_s h_7
      unfold f_X5_likeTouchesOfArm_b1 at h_9
      refine j_iload (pc' := 36) cx 5 dX5_likeTouchesOfArm_34 rfl rfl ?_
      refine j_iconst (pc' := 37) cx 4 dX5_likeTouchesOfArm_36 ki_4 rfl ?_
      refine j_icmp_ge (tgt := 100) (pc' := 40) cx dX5_likeTouchesOfArm_37 (by decide) rfl (fun ch_9 => ?_) (fun ch_9 => ?_)
      · have h_11 := it_t h_9 ch_9
        have h_12 := so_i h_11
        subst h_12
        have h_13 := so_i (se_r h_10)
        subst h_13
        refine j_lv (lv' := [(5, .int s6.1)]) cx [4] rfl ?_
        exact KXe7
      · have h_14 := it_f h_9 ch_9
        refine j_iload_n (pc' := 41) cx 2 dX5_likeTouchesOfArm_40 rfl rfl ?_
        refine j_iload (pc' := 43) cx 5 dX5_likeTouchesOfArm_41 rfl rfl ?_
        obtain ⟨r8, c9, h_15⟩ := bd_s h_14
        refine j_cS (pc' := 46) cx (c_X0_beside l D cI cZ cC cS r2 s6.2 r8 c9) 2 yk_X0_beside wM_X5_29 ⟨wT_X0_beside, wI_X0, wC_X0_beside⟩ ⟨rfl, rfl, Nat.le_of_ble_eq_true rfl, Nat.le_of_ble_eq_true rfl, Nat.le_of_ble_eq_true rfl, Nat.le_of_ble_eq_true rfl⟩ [] [0, 1, 2, 3, 4, 5, 6, 7, 8] [0, 1, 2, 3, 4, 5, 6, 7, 8] rfl [(hNW, .inr (3, [.int NWru, .int NWco, .ref hNWk, .ref hNWt, .ref hNWm, .ref hNWc])), (hNWk, .inl (cI, 30, .inl NWKa)), (hNWt, .inl (cI, 30, .inl NWTa)), (hNWm, .inl (cI, 30, .inl NWMa)), (hNWc, .inl (cI, 24, .inl NWCa)), (hCA, .inr (0, [.ref hNW, .ref hCAo, .ref hCAp])), (hCAo, .inl (cI, 150, .inl CAow)), (hCAp, .inl (cI, 150, .inl CApa)), (hSV, .inr (4, [.ref hCA, .ref hSVr, .ref hSVq, .ref hSVm]))] rfl (by decide) [(hNW, .inr (3, [.int NWru, .int NWco, .ref hNWk, .ref hNWt, .ref hNWm, .ref hNWc])), (hNWk, .inl (cI, 30, .inl NWKa)), (hNWt, .inl (cI, 30, .inl NWTa)), (hNWm, .inl (cI, 30, .inl NWMa)), (hNWc, .inl (cI, 24, .inl NWCa)), (hCA, .inr (0, [.ref hNW, .ref hCAo, .ref hCAp])), (hCAo, .inl (cI, 150, .inl CAow)), (hCAp, .inl (cI, 150, .inl CApa)), (hSV, .inr (4, [.ref hCA, .ref hSVr, .ref hSVq, .ref hSVm]))] rfl (by decide) rfl rfl (Nat.le_of_ble_eq_true rfl) dX5_likeTouchesOfArm_43 rfl ?_
        refine j_istore (lv' := [(7, .int r8), (0, .ref hSV), (1, .int p0), (3, .int r2), (4, .int r4), (5, .int s6.1), (6, .int s6.2)]) (pc' := 48) cx dX5_likeTouchesOfArm_46 (by decide) rfl rfl ?_
        refine j_aload_n (pc' := 49) cx 1 dX5_likeTouchesOfArm_48 rfl rfl ?_
        refine j_get (C := RX5) (T := TX5) (N := 4) (pc' := 52) cx uB_X5 8 rfl rfl 0 (by decide) wF_X5_12 (.ref hCA) rfl dX5_likeTouchesOfArm_49 rfl ?_
        refine j_iload (pc' := 54) cx 0 dX5_likeTouchesOfArm_52 rfl rfl ?_
        refine j_iload_n (pc' := 55) cx 2 dX5_likeTouchesOfArm_54 rfl rfl ?_
        obtain ⟨r10, c11, h_16⟩ := bd_s h_15
        refine j_cV (pc' := 58) cx (c_X1_hasArmOfOther l D cI cZ cC cS hNW hCA hCAo hCAp CAow CApa r8 p0 r10 c11) 2 yk_X1_hasArmOfOther wM_X5_51 ⟨wN_X1_hasArmOfOther, wS_X1_hasArmOfOther, wI_X1, wC_X1_hasArmOfOther⟩ ⟨rfl, rfl, Nat.le_of_ble_eq_true rfl, Nat.le_of_ble_eq_true rfl, Nat.le_of_ble_eq_true rfl, Nat.le_of_ble_eq_true rfl⟩ [5, 6, 7] [0, 1, 2, 3, 4, 8] [0, 1, 2, 3, 4, 6, 7, 8, 5] rfl [(hNW, .inr (3, [.int NWru, .int NWco, .ref hNWk, .ref hNWt, .ref hNWm, .ref hNWc])), (hNWk, .inl (cI, 30, .inl NWKa)), (hNWt, .inl (cI, 30, .inl NWTa)), (hNWm, .inl (cI, 30, .inl NWMa)), (hNWc, .inl (cI, 24, .inl NWCa)), (hSV, .inr (4, [.ref hCA, .ref hSVr, .ref hSVq, .ref hSVm]))] rfl (by decide) [(hNW, .inr (3, [.int NWru, .int NWco, .ref hNWk, .ref hNWt, .ref hNWm, .ref hNWc])), (hNWk, .inl (cI, 30, .inl NWKa)), (hNWt, .inl (cI, 30, .inl NWTa)), (hNWm, .inl (cI, 30, .inl NWMa)), (hNWc, .inl (cI, 24, .inl NWCa)), (hCA, .inr (0, [.ref hNW, .ref hCAo, .ref hCAp])), (hCAo, .inl (cI, 150, .inl CAow)), (hCAp, .inl (cI, 150, .inl CApa)), (hSV, .inr (4, [.ref hCA, .ref hSVr, .ref hSVq, .ref hSVm]))] rfl (by decide) 5 0 rfl rfl rfl rfl rfl (Nat.le_of_ble_eq_true rfl) dX5_likeTouchesOfArm_55 rfl ?_
        obtain ⟨t18, h_18, h_17⟩ := bd_s h_16
        have Kt18 : j 0 0 [(hNW, .inr (3, [.int NWru, .int NWco, .ref hNWk, .ref hNWt, .ref hNWm, .ref hNWc])), (hNWk, .inl (cI, 30, .inl NWKa)), (hNWt, .inl (cI, 30, .inl NWTa)), (hNWm, .inl (cI, 30, .inl NWMa)), (hNWc, .inl (cI, 24, .inl NWCa)), (hCA, .inr (0, [.ref hNW, .ref hCAo, .ref hCAp])), (hCAo, .inl (cI, 150, .inl CAow)), (hCAp, .inl (cI, 150, .inl CApa)), (hSV, .inr (4, [.ref hCA, .ref hSVr, .ref hSVq, .ref hSVm]))] [(0, .ref hSV), (1, .int p0), (3, .int r2), (4, .int r4), (5, .int t18), (6, .int s6.2)] 94 [] := by
          refine j_iinc (v := (s6.2 + 1)) (lv' := [(6, .int (s6.2 + 1)), (0, .ref hSV), (1, .int p0), (3, .int r2), (4, .int r4), (5, .int t18)]) (pc' := 97) cx 5 dX5_likeTouchesOfArm_94 rfl (kn_1 _) (by decide) rfl rfl ?_
          refine j_goto (pc' := 34) cx dX5_likeTouchesOfArm_97 (by decide) ?_
          have h_19 := so_i h_17
          subst h_19
          refine j_lv (lv' := [(0, .ref hSV), (1, .int p0), (3, .int r2), (4, .int r4), (5, .int t18), (6, .int (s6.2 + 1))]) cx [1, 2, 3, 4, 5, 0] rfl ?_
          exact ihe7 _ (se_l h_10)
        refine j_if_eq (tgt := 94) (pc' := 61) cx dX5_likeTouchesOfArm_58 (by decide) rfl (fun ch_18 => ?_) (fun ch_18 => ?_)
        · have h_20 := it_t h_18 ch_18
          have h_21 := so_i h_20
          subst h_21
          refine j_lv (lv' := [(0, .ref hSV), (1, .int p0), (3, .int r2), (4, .int r4), (5, .int s6.1), (6, .int s6.2)]) cx [1, 2, 3, 4, 5, 6] rfl ?_
          exact Kt18
        · have h_22 := it_f h_18 ch_18
          refine j_aload_n (pc' := 62) cx 1 dX5_likeTouchesOfArm_61 rfl rfl ?_
          refine j_get (C := RX5) (T := TX5) (N := 4) (pc' := 65) cx uB_X5 8 rfl rfl 0 (by decide) wF_X5_12 (.ref hCA) rfl dX5_likeTouchesOfArm_62 rfl ?_
          refine j_aload_n (pc' := 66) cx 1 dX5_likeTouchesOfArm_65 rfl rfl ?_
          refine j_get (C := RX5) (T := TX5) (N := 4) (pc' := 69) cx uB_X5 8 rfl rfl 0 (by decide) wF_X5_12 (.ref hCA) rfl dX5_likeTouchesOfArm_66 rfl ?_
          refine j_iload (pc' := 71) cx 0 dX5_likeTouchesOfArm_69 rfl rfl ?_
          obtain ⟨r12, c13, h_23⟩ := bd_s h_22
          refine j_cV (pc' := 74) cx (c_X1_ownerOf l D cI cZ cC cS hNW hCA hCAo hCAp CAow r8 r12 c13) 1 yk_X1_ownerOf wM_X5_55 ⟨wN_X1_ownerOf, wS_X1_ownerOf, wI_X1, wC_X1_ownerOf⟩ ⟨rfl, rfl, Nat.le_of_ble_eq_true rfl, Nat.le_of_ble_eq_true rfl, Nat.le_of_ble_eq_true rfl, Nat.le_of_ble_eq_true rfl⟩ [5, 6] [0, 1, 2, 3, 4, 7, 8] [0, 1, 2, 3, 4, 7, 8, 5, 6] rfl [(hNW, .inr (3, [.int NWru, .int NWco, .ref hNWk, .ref hNWt, .ref hNWm, .ref hNWc])), (hNWk, .inl (cI, 30, .inl NWKa)), (hNWt, .inl (cI, 30, .inl NWTa)), (hNWm, .inl (cI, 30, .inl NWMa)), (hNWc, .inl (cI, 24, .inl NWCa)), (hCAp, .inl (cI, 150, .inl CApa)), (hSV, .inr (4, [.ref hCA, .ref hSVr, .ref hSVq, .ref hSVm]))] rfl (by decide) [(hNW, .inr (3, [.int NWru, .int NWco, .ref hNWk, .ref hNWt, .ref hNWm, .ref hNWc])), (hNWk, .inl (cI, 30, .inl NWKa)), (hNWt, .inl (cI, 30, .inl NWTa)), (hNWm, .inl (cI, 30, .inl NWMa)), (hNWc, .inl (cI, 24, .inl NWCa)), (hCA, .inr (0, [.ref hNW, .ref hCAo, .ref hCAp])), (hCAo, .inl (cI, 150, .inl CAow)), (hCAp, .inl (cI, 150, .inl CApa)), (hSV, .inr (4, [.ref hCA, .ref hSVr, .ref hSVq, .ref hSVm]))] rfl (by decide) 5 0 rfl rfl rfl rfl rfl (Nat.le_of_ble_eq_true rfl) dX5_likeTouchesOfArm_71 rfl ?_
          refine j_aload_n (pc' := 75) cx 1 dX5_likeTouchesOfArm_74 rfl rfl ?_
          refine j_get (C := RX5) (T := TX5) (N := 4) (pc' := 78) cx uB_X5 8 rfl rfl 0 (by decide) wF_X5_12 (.ref hCA) rfl dX5_likeTouchesOfArm_75 rfl ?_
          refine j_iload (pc' := 80) cx 0 dX5_likeTouchesOfArm_78 rfl rfl ?_
          obtain ⟨r14, c15, h_24⟩ := bd_s h_23
          refine j_cV (pc' := 83) cx (c_X1_partOn l D cI cZ cC cS hNW hCA hCAo hCAp CApa r8 r14 c15) 1 yk_X1_partOn wM_X5_103 ⟨wN_X1_partOn, wS_X1_partOn, wI_X1, wC_X1_partOn⟩ ⟨rfl, rfl, Nat.le_of_ble_eq_true rfl, Nat.le_of_ble_eq_true rfl, Nat.le_of_ble_eq_true rfl, Nat.le_of_ble_eq_true rfl⟩ [5, 7] [0, 1, 2, 3, 4, 6, 8] [0, 1, 2, 3, 4, 7, 5, 8, 6] rfl [(hNW, .inr (3, [.int NWru, .int NWco, .ref hNWk, .ref hNWt, .ref hNWm, .ref hNWc])), (hNWk, .inl (cI, 30, .inl NWKa)), (hNWt, .inl (cI, 30, .inl NWTa)), (hNWm, .inl (cI, 30, .inl NWMa)), (hNWc, .inl (cI, 24, .inl NWCa)), (hCAo, .inl (cI, 150, .inl CAow)), (hSV, .inr (4, [.ref hCA, .ref hSVr, .ref hSVq, .ref hSVm]))] rfl (by decide) [(hNW, .inr (3, [.int NWru, .int NWco, .ref hNWk, .ref hNWt, .ref hNWm, .ref hNWc])), (hNWk, .inl (cI, 30, .inl NWKa)), (hNWt, .inl (cI, 30, .inl NWTa)), (hNWm, .inl (cI, 30, .inl NWMa)), (hNWc, .inl (cI, 24, .inl NWCa)), (hCA, .inr (0, [.ref hNW, .ref hCAo, .ref hCAp])), (hCAo, .inl (cI, 150, .inl CAow)), (hCAp, .inl (cI, 150, .inl CApa)), (hSV, .inr (4, [.ref hCA, .ref hSVr, .ref hSVq, .ref hSVm]))] rfl (by decide) 5 0 rfl rfl rfl rfl rfl (Nat.le_of_ble_eq_true rfl) dX5_likeTouchesOfArm_80 rfl ?_
          obtain ⟨r16, c17, h_25⟩ := bd_s h_24
          refine j_cV (pc' := 86) cx (c_X1_colourShown l D cI cZ cC cS hNW hNWk hNWt hNWm hNWc hCA hCAo hCAp NWru NWco NWKa NWTa NWCa r12 r14 r16 c17) 2 yk_X1_colourShown wM_X5_113 ⟨wN_X1_colourShown, wS_X1_colourShown, wI_X1, wC_X1_colourShown⟩ ⟨rfl, rfl, Nat.le_of_ble_eq_true rfl, Nat.le_of_ble_eq_true rfl, Nat.le_of_ble_eq_true rfl, Nat.le_of_ble_eq_true rfl⟩ [0, 1, 2, 4, 5] [3, 6, 7, 8] [4, 5, 6, 0, 7, 8, 1, 2, 3] rfl [(hNWm, .inl (cI, 30, .inl NWMa)), (hCAo, .inl (cI, 150, .inl CAow)), (hCAp, .inl (cI, 150, .inl CApa)), (hSV, .inr (4, [.ref hCA, .ref hSVr, .ref hSVq, .ref hSVm]))] rfl (by decide) [(hNW, .inr (3, [.int NWru, .int NWco, .ref hNWk, .ref hNWt, .ref hNWm, .ref hNWc])), (hNWk, .inl (cI, 30, .inl NWKa)), (hNWt, .inl (cI, 30, .inl NWTa)), (hNWm, .inl (cI, 30, .inl NWMa)), (hNWc, .inl (cI, 24, .inl NWCa)), (hCA, .inr (0, [.ref hNW, .ref hCAo, .ref hCAp])), (hCAo, .inl (cI, 150, .inl CAow)), (hCAp, .inl (cI, 150, .inl CApa)), (hSV, .inr (4, [.ref hCA, .ref hSVr, .ref hSVq, .ref hSVm]))] rfl (by decide) 5 0 rfl rfl rfl rfl rfl (Nat.le_of_ble_eq_true rfl) dX5_likeTouchesOfArm_83 rfl ?_
          refine j_iload (pc' := 88) cx 4 dX5_likeTouchesOfArm_86 rfl rfl ?_
          refine j_icmp_ne (tgt := 94) (pc' := 91) cx dX5_likeTouchesOfArm_88 (by decide) rfl (fun ch_25 => ?_) (fun ch_25 => ?_)
          · have h_26 := it_f h_25 ch_25
            have h_27 := so_i h_26
            subst h_27
            refine j_lv (lv' := [(0, .ref hSV), (1, .int p0), (3, .int r2), (4, .int r4), (5, .int s6.1), (6, .int s6.2)]) cx [1, 2, 3, 4, 5, 6] rfl ?_
            exact Kt18
          · have h_28 := it_t h_25 ch_25
            refine j_iinc (v := (s6.1 + 1)) (lv' := [(5, .int (s6.1 + 1)), (7, .int r8), (0, .ref hSV), (1, .int p0), (3, .int r2), (4, .int r4), (6, .int s6.2)]) (pc' := 94) cx 5 dX5_likeTouchesOfArm_91 rfl (kn_1 _) (by decide) rfl rfl ?_
            have h_29 := so_i h_28
            subst h_29
            refine j_lv (lv' := [(0, .ref hSV), (1, .int p0), (3, .int r2), (4, .int r4), (5, .int (s6.1 + 1)), (6, .int s6.2)]) cx [2, 3, 4, 5, 0, 6] rfl ?_
            exact Kt18
  refine j_lv (lv' := [(0, .ref hSV), (1, .int p0), (3, .int r2), (4, .int r4), (5, .int 0), (6, .int 0)]) cx [4, 5, 3, 2, 1, 0] rfl ?_
  exact LPe7 _ _ h_4
set_option maxHeartbeats 4000000 in
set_option maxRecDepth 100000 in
theorem c_X5_touchesOfLikeColours (l : Launch) (D : va_G) (cI cZ cC cS : ClassId) (hNW hNWk hNWt hNWm hNWc hCA hCAo hCAp hSV hSVr hSVq hSVm : Nat) (NWru : Int32) (NWco : Int32) (NWKa : Nat → Int32) (NWTa : Nat → Int32) (NWMa : Nat → Int32) (NWCa : Nat → Int32) (CAow : Nat → Int32) (CApa : Nat → Int32) (out : Int32) (hm : f_X5_touchesOfLikeColours NWco NWKa NWTa NWMa NWCa CAow CApa = some out) : Ct l yX5_touchesOfLikeColours cX5_touchesOfLikeColours 4 (some .int) ({ frames := 3, cells := 0, slots := 0, locals := 73 }) (D, TY cI cZ cC cS) [.ref hSV] [(hNW, .inr (3, [.int NWru, .int NWco, .ref hNWk, .ref hNWt, .ref hNWm, .ref hNWc])), (hNWk, .inl (cI, 30, .inl NWKa)), (hNWt, .inl (cI, 30, .inl NWTa)), (hNWm, .inl (cI, 30, .inl NWMa)), (hNWc, .inl (cI, 24, .inl NWCa)), (hCA, .inr (0, [.ref hNW, .ref hCAo, .ref hCAp])), (hCAo, .inl (cI, 150, .inl CAow)), (hCAp, .inl (cI, 150, .inl CApa)), (hSV, .inr (4, [.ref hCA, .ref hSVr, .ref hSVq, .ref hSVm]))] (jw_P (some (.int out)) [(hNW, .inr (3, [.int NWru, .int NWco, .ref hNWk, .ref hNWt, .ref hNWm, .ref hNWc])), (hNWk, .inl (cI, 30, .inl NWKa)), (hNWt, .inl (cI, 30, .inl NWTa)), (hNWm, .inl (cI, 30, .inl NWMa)), (hNWc, .inl (cI, 24, .inl NWCa)), (hCA, .inr (0, [.ref hNW, .ref hCAo, .ref hCAp])), (hCAo, .inl (cI, 150, .inl CAow)), (hCAp, .inl (cI, 150, .inl CApa)), (hSV, .inr (4, [.ref hCA, .ref hSVr, .ref hSVq, .ref hSVm]))]) 0 0 := by
  refine ct_of RX5 (by decide +kernel) rfl (Nat.le_of_ble_eq_true rfl) (fun j cx => ?_)
  unfold f_X5_touchesOfLikeColours at hm
  show j 0 0 [(hNW, .inr (3, [.int NWru, .int NWco, .ref hNWk, .ref hNWt, .ref hNWm, .ref hNWc])), (hNWk, .inl (cI, 30, .inl NWKa)), (hNWt, .inl (cI, 30, .inl NWTa)), (hNWm, .inl (cI, 30, .inl NWMa)), (hNWc, .inl (cI, 24, .inl NWCa)), (hCA, .inr (0, [.ref hNW, .ref hCAo, .ref hCAp])), (hCAo, .inl (cI, 150, .inl CAow)), (hCAp, .inl (cI, 150, .inl CApa)), (hSV, .inr (4, [.ref hCA, .ref hSVr, .ref hSVq, .ref hSVm]))] [(0, .ref hSV)] 0 []
  refine j_iconst (pc' := 1) cx 0 dX5_touchesOfLikeColours_0 ki_0 rfl ?_
  refine j_istore_n (lv' := [(1, .int 0), (0, .ref hSV)]) (pc' := 2) cx dX5_touchesOfLikeColours_1 (by decide) rfl rfl ?_
  refine j_iconst (pc' := 3) cx 0 dX5_touchesOfLikeColours_2 ki_0 rfl ?_
  refine j_istore_n (lv' := [(2, .int 0), (1, .int 0), (0, .ref hSV)]) (pc' := 4) cx dX5_touchesOfLikeColours_3 (by decide) rfl rfl ?_
  obtain ⟨e2, h_1, h_2⟩ := bd_s hm
  have KXe2 : j 0 0 [(hNW, .inr (3, [.int NWru, .int NWco, .ref hNWk, .ref hNWt, .ref hNWm, .ref hNWc])), (hNWk, .inl (cI, 30, .inl NWKa)), (hNWt, .inl (cI, 30, .inl NWTa)), (hNWm, .inl (cI, 30, .inl NWMa)), (hNWc, .inl (cI, 24, .inl NWCa)), (hCA, .inr (0, [.ref hNW, .ref hCAo, .ref hCAp])), (hCAo, .inl (cI, 150, .inl CAow)), (hCAp, .inl (cI, 150, .inl CApa)), (hSV, .inr (4, [.ref hCA, .ref hSVr, .ref hSVq, .ref hSVm]))] [(1, .int e2.1)] 46 [] := by
    refine j_iload_n (pc' := 47) cx 0 dX5_touchesOfLikeColours_46 rfl rfl ?_
    refine j_iconst (pc' := 48) cx 2 dX5_touchesOfLikeColours_47 ki_2 rfl ?_
    refine j_idiv (pc' := 49) cx dX5_touchesOfLikeColours_48 kz_2 rfl ?_
    have h_3 := so_i h_2
    subst h_3
    exact j_ret cx (Or.inr (Or.inl ⟨_, _, rfl, rfl, dX5_touchesOfLikeColours_49, rfl, rfl⟩)) ⟨rfl, rfl⟩
  have LPe2 : ∀ (n : Nat) (s1 : Int32 × Int32), lp (f_X5_touchesOfLikeColours_b2 NWco NWKa NWTa NWMa NWCa CAow CApa) n s1 = some e2 → j 0 0 [(hNW, .inr (3, [.int NWru, .int NWco, .ref hNWk, .ref hNWt, .ref hNWm, .ref hNWc])), (hNWk, .inl (cI, 30, .inl NWKa)), (hNWt, .inl (cI, 30, .inl NWTa)), (hNWm, .inl (cI, 30, .inl NWMa)), (hNWc, .inl (cI, 24, .inl NWCa)), (hCA, .inr (0, [.ref hNW, .ref hCAo, .ref hCAp])), (hCAo, .inl (cI, 150, .inl CAow)), (hCAp, .inl (cI, 150, .inl CApa)), (hSV, .inr (4, [.ref hCA, .ref hSVr, .ref hSVq, .ref hSVm]))] [(0, .ref hSV), (1, .int s1.1), (2, .int s1.2)] 4 [] := by
    intro n
    induction n with
    | zero => intro s1 z; exact absurd z (by intro z; cases z)
    | succ n ihe2 =>
      intro s1 h_4
      obtain ⟨q_5, h_6, h_7⟩ := bd_s h_4
      unfold f_X5_touchesOfLikeColours_b2 at h_6
      refine j_iload_n (pc' := 5) cx 2 dX5_touchesOfLikeColours_4 rfl rfl ?_
      refine j_aload_n (pc' := 6) cx 0 dX5_touchesOfLikeColours_5 rfl rfl ?_
      refine j_get (C := RX5) (T := TX5) (N := 4) (pc' := 9) cx uB_X5 8 rfl rfl 0 (by decide) wF_X5_12 (.ref hCA) rfl dX5_touchesOfLikeColours_6 rfl ?_
      refine j_get (C := RX1) (T := TX1) (N := 3) (pc' := 12) cx uB_X1 5 rfl rfl 0 (by decide) wF_X5_42 (.ref hNW) rfl dX5_touchesOfLikeColours_9 rfl ?_
      refine j_get (C := RX4) (T := TX4) (N := 6) (pc' := 15) cx uB_X4 0 rfl rfl 1 (by decide) wF_X5_66 (.int NWco) rfl dX5_touchesOfLikeColours_12 rfl ?_
      refine j_icmp_ge (tgt := 46) (pc' := 18) cx dX5_touchesOfLikeColours_15 (by decide) rfl (fun ch_6 => ?_) (fun ch_6 => ?_)
      · have h_8 := it_t h_6 ch_6
        have h_9 := so_i h_8
        subst h_9
        have h_10 := so_i (se_r h_7)
        subst h_10
        refine j_lv (lv' := [(1, .int s1.1)]) cx [1] rfl ?_
        exact KXe2
      · have h_11 := it_f h_6 ch_6
        refine j_iconst (pc' := 19) cx 0 dX5_touchesOfLikeColours_18 ki_0 rfl ?_
        refine j_istore_n (lv' := [(3, .int 0), (0, .ref hSV), (1, .int s1.1), (2, .int s1.2)]) (pc' := 20) cx dX5_touchesOfLikeColours_19 (by decide) rfl rfl ?_
        obtain ⟨e4, h_12, h_13⟩ := bd_s h_11
        have KXe4 : j 0 0 [(hNW, .inr (3, [.int NWru, .int NWco, .ref hNWk, .ref hNWt, .ref hNWm, .ref hNWc])), (hNWk, .inl (cI, 30, .inl NWKa)), (hNWt, .inl (cI, 30, .inl NWTa)), (hNWm, .inl (cI, 30, .inl NWMa)), (hNWc, .inl (cI, 24, .inl NWCa)), (hCA, .inr (0, [.ref hNW, .ref hCAo, .ref hCAp])), (hCAo, .inl (cI, 150, .inl CAow)), (hCAp, .inl (cI, 150, .inl CApa)), (hSV, .inr (4, [.ref hCA, .ref hSVr, .ref hSVq, .ref hSVm]))] [(0, .ref hSV), (1, .int e4.1), (2, .int s1.2)] 40 [] := by
          refine j_iinc (v := (s1.2 + 1)) (lv' := [(2, .int (s1.2 + 1)), (0, .ref hSV), (1, .int e4.1)]) (pc' := 43) cx 2 dX5_touchesOfLikeColours_40 rfl (kn_1 _) (by decide) rfl rfl ?_
          refine j_goto (pc' := 4) cx dX5_touchesOfLikeColours_43 (by decide) ?_
          have h_14 := so_i h_13
          subst h_14
          refine j_lv (lv' := [(0, .ref hSV), (1, .int e4.1), (2, .int (s1.2 + 1))]) cx [1, 2, 0] rfl ?_
          exact ihe2 _ (se_l h_7)
        have LPe4 : ∀ (n : Nat) (s3 : Int32 × Int32), lp (f_X5_touchesOfLikeColours_b1 NWKa NWTa NWMa NWCa CAow CApa s1) n s3 = some e4 → j 0 0 [(hNW, .inr (3, [.int NWru, .int NWco, .ref hNWk, .ref hNWt, .ref hNWm, .ref hNWc])), (hNWk, .inl (cI, 30, .inl NWKa)), (hNWt, .inl (cI, 30, .inl NWTa)), (hNWm, .inl (cI, 30, .inl NWMa)), (hNWc, .inl (cI, 24, .inl NWCa)), (hCA, .inr (0, [.ref hNW, .ref hCAo, .ref hCAp])), (hCAo, .inl (cI, 150, .inl CAow)), (hCAp, .inl (cI, 150, .inl CApa)), (hSV, .inr (4, [.ref hCA, .ref hSVr, .ref hSVq, .ref hSVm]))] [(0, .ref hSV), (1, .int s3.1), (2, .int s1.2), (3, .int s3.2)] 20 [] := by
          intro n
          induction n with
          | zero => intro s3 z; exact absurd z (by intro z; cases z)
          | succ n ihe4 =>
            intro s3 h_15
            obtain ⟨q_16, h_17, h_18⟩ := bd_s h_15
            unfold f_X5_touchesOfLikeColours_b1 at h_17
            refine j_iload_n (pc' := 21) cx 3 dX5_touchesOfLikeColours_20 rfl rfl ?_
            refine j_iconst (pc' := 22) cx 4 dX5_touchesOfLikeColours_21 ki_4 rfl ?_
            refine j_icmp_ge (tgt := 40) (pc' := 25) cx dX5_touchesOfLikeColours_22 (by decide) rfl (fun ch_17 => ?_) (fun ch_17 => ?_)
            · have h_19 := it_t h_17 ch_17
              have h_20 := so_i h_19
              subst h_20
              have h_21 := so_i (se_r h_18)
              subst h_21
              refine j_lv (lv' := [(0, .ref hSV), (1, .int s3.1), (2, .int s1.2)]) cx [0, 1, 2] rfl ?_
              exact KXe4
            · have h_22 := it_f h_17 ch_17
              refine j_iload_n (pc' := 26) cx 1 dX5_touchesOfLikeColours_25 rfl rfl ?_
              refine j_aload_n (pc' := 27) cx 0 dX5_touchesOfLikeColours_26 rfl rfl ?_
              refine j_iload_n (pc' := 28) cx 2 dX5_touchesOfLikeColours_27 rfl rfl ?_
              refine j_iload_n (pc' := 29) cx 3 dX5_touchesOfLikeColours_28 rfl rfl ?_
              obtain ⟨r5, c6, h_23⟩ := bd_s h_22
              refine j_cV (pc' := 32) cx (c_X5_likeTouchesOfArm l D cI cZ cC cS hNW hNWk hNWt hNWm hNWc hCA hCAo hCAp hSV hSVr hSVq hSVm NWru NWco NWKa NWTa NWMa NWCa CAow CApa s1.2 s3.2 r5 c6) 2 yk_X5_likeTouchesOfArm wM_X5_73 ⟨wN_X5_likeTouchesOfArm, wS_X5_likeTouchesOfArm, wI_X5, wC_X5_likeTouchesOfArm⟩ ⟨rfl, rfl, Nat.le_of_ble_eq_true rfl, Nat.le_of_ble_eq_true rfl, Nat.le_of_ble_eq_true rfl, Nat.le_of_ble_eq_true rfl⟩ [0, 1, 2, 3, 4, 5, 6, 7, 8] [] [0, 1, 2, 3, 4, 5, 6, 7, 8] rfl [] rfl (by decide) [(hNW, .inr (3, [.int NWru, .int NWco, .ref hNWk, .ref hNWt, .ref hNWm, .ref hNWc])), (hNWk, .inl (cI, 30, .inl NWKa)), (hNWt, .inl (cI, 30, .inl NWTa)), (hNWm, .inl (cI, 30, .inl NWMa)), (hNWc, .inl (cI, 24, .inl NWCa)), (hCA, .inr (0, [.ref hNW, .ref hCAo, .ref hCAp])), (hCAo, .inl (cI, 150, .inl CAow)), (hCAp, .inl (cI, 150, .inl CApa)), (hSV, .inr (4, [.ref hCA, .ref hSVr, .ref hSVq, .ref hSVm]))] rfl (by decide) 8 4 rfl rfl rfl rfl rfl (Nat.le_of_ble_eq_true rfl) dX5_touchesOfLikeColours_29 rfl ?_
              refine j_iadd (pc' := 33) cx dX5_touchesOfLikeColours_32 rfl ?_
              refine j_istore_n (lv' := [(1, .int (s3.1 + r5)), (0, .ref hSV), (2, .int s1.2), (3, .int s3.2)]) (pc' := 34) cx dX5_touchesOfLikeColours_33 (by decide) rfl rfl ?_
              refine j_iinc (v := (s3.2 + 1)) (lv' := [(3, .int (s3.2 + 1)), (1, .int (s3.1 + r5)), (0, .ref hSV), (2, .int s1.2)]) (pc' := 37) cx 3 dX5_touchesOfLikeColours_34 rfl (kn_1 _) (by decide) rfl rfl ?_
              refine j_goto (pc' := 20) cx dX5_touchesOfLikeColours_37 (by decide) ?_
              have h_24 := so_i h_23
              subst h_24
              refine j_lv (lv' := [(0, .ref hSV), (1, .int (s3.1 + r5)), (2, .int s1.2), (3, .int (s3.2 + 1))]) cx [2, 1, 3, 0] rfl ?_
              exact ihe4 _ (se_l h_18)
        refine j_lv (lv' := [(0, .ref hSV), (1, .int s1.1), (2, .int s1.2), (3, .int 0)]) cx [1, 2, 3, 0] rfl ?_
        exact LPe4 _ _ h_12
  refine j_lv (lv' := [(0, .ref hSV), (1, .int 0), (2, .int 0)]) cx [2, 1, 0] rfl ?_
  exact LPe2 _ _ h_1
set_option maxHeartbeats 4000000 in
set_option maxRecDepth 100000 in
theorem c_X5_crossesThatTouchNone (l : Launch) (D : va_G) (cI cZ cC cS : ClassId) (hNW hNWk hNWt hNWm hNWc hCA hCAo hCAp hSV hSVr hSVq hSVm : Nat) (NWru : Int32) (NWco : Int32) (NWMa : Nat → Int32) (CAow : Nat → Int32) (CApa : Nat → Int32) (out : Int32) (hm : f_X5_crossesThatTouchNone NWco NWMa CAow CApa = some out) : Ct l yX5_crossesThatTouchNone cX5_crossesThatTouchNone 3 (some .int) ({ frames := 4, cells := 0, slots := 0, locals := 93 }) (D, TY cI cZ cC cS) [.ref hSV] [(hNW, .inr (3, [.int NWru, .int NWco, .ref hNWk, .ref hNWt, .ref hNWm, .ref hNWc])), (hNWm, .inl (cI, 30, .inl NWMa)), (hCA, .inr (0, [.ref hNW, .ref hCAo, .ref hCAp])), (hCAo, .inl (cI, 150, .inl CAow)), (hCAp, .inl (cI, 150, .inl CApa)), (hSV, .inr (4, [.ref hCA, .ref hSVr, .ref hSVq, .ref hSVm]))] (jw_P (some (.int out)) [(hNW, .inr (3, [.int NWru, .int NWco, .ref hNWk, .ref hNWt, .ref hNWm, .ref hNWc])), (hNWm, .inl (cI, 30, .inl NWMa)), (hCA, .inr (0, [.ref hNW, .ref hCAo, .ref hCAp])), (hCAo, .inl (cI, 150, .inl CAow)), (hCAp, .inl (cI, 150, .inl CApa)), (hSV, .inr (4, [.ref hCA, .ref hSVr, .ref hSVq, .ref hSVm]))]) 0 0 := by
  refine ct_of RX5 (by decide +kernel) rfl (Nat.le_of_ble_eq_true rfl) (fun j cx => ?_)
  unfold f_X5_crossesThatTouchNone at hm
  show j 0 0 [(hNW, .inr (3, [.int NWru, .int NWco, .ref hNWk, .ref hNWt, .ref hNWm, .ref hNWc])), (hNWm, .inl (cI, 30, .inl NWMa)), (hCA, .inr (0, [.ref hNW, .ref hCAo, .ref hCAp])), (hCAo, .inl (cI, 150, .inl CAow)), (hCAp, .inl (cI, 150, .inl CApa)), (hSV, .inr (4, [.ref hCA, .ref hSVr, .ref hSVq, .ref hSVm]))] [(0, .ref hSV)] 0 []
  refine j_iconst (pc' := 1) cx 0 dX5_crossesThatTouchNone_0 ki_0 rfl ?_
  refine j_istore_n (lv' := [(1, .int 0), (0, .ref hSV)]) (pc' := 2) cx dX5_crossesThatTouchNone_1 (by decide) rfl rfl ?_
  refine j_iconst (pc' := 3) cx 0 dX5_crossesThatTouchNone_2 ki_0 rfl ?_
  refine j_istore_n (lv' := [(2, .int 0), (1, .int 0), (0, .ref hSV)]) (pc' := 4) cx dX5_crossesThatTouchNone_3 (by decide) rfl rfl ?_
  obtain ⟨e2, h_1, h_2⟩ := bd_s hm
  have KXe2 : j 0 0 [(hNW, .inr (3, [.int NWru, .int NWco, .ref hNWk, .ref hNWt, .ref hNWm, .ref hNWc])), (hNWm, .inl (cI, 30, .inl NWMa)), (hCA, .inr (0, [.ref hNW, .ref hCAo, .ref hCAp])), (hCAo, .inl (cI, 150, .inl CAow)), (hCAp, .inl (cI, 150, .inl CApa)), (hSV, .inr (4, [.ref hCA, .ref hSVr, .ref hSVq, .ref hSVm]))] [(1, .int e2.1)] 47 [] := by
    refine j_iload_n (pc' := 48) cx 0 dX5_crossesThatTouchNone_47 rfl rfl ?_
    have h_3 := so_i h_2
    subst h_3
    exact j_ret cx (Or.inr (Or.inl ⟨_, _, rfl, rfl, dX5_crossesThatTouchNone_48, rfl, rfl⟩)) ⟨rfl, rfl⟩
  have LPe2 : ∀ (n : Nat) (s1 : Int32 × Int32), lp (f_X5_crossesThatTouchNone_b1 NWco NWMa CAow CApa) n s1 = some e2 → j 0 0 [(hNW, .inr (3, [.int NWru, .int NWco, .ref hNWk, .ref hNWt, .ref hNWm, .ref hNWc])), (hNWm, .inl (cI, 30, .inl NWMa)), (hCA, .inr (0, [.ref hNW, .ref hCAo, .ref hCAp])), (hCAo, .inl (cI, 150, .inl CAow)), (hCAp, .inl (cI, 150, .inl CApa)), (hSV, .inr (4, [.ref hCA, .ref hSVr, .ref hSVq, .ref hSVm]))] [(0, .ref hSV), (1, .int s1.1), (2, .int s1.2)] 4 [] := by
    intro n
    induction n with
    | zero => intro s1 z; exact absurd z (by intro z; cases z)
    | succ n ihe2 =>
      intro s1 h_4
      obtain ⟨q_5, h_6, h_7⟩ := bd_s h_4
      unfold f_X5_crossesThatTouchNone_b1 at h_6
      refine j_iload_n (pc' := 5) cx 2 dX5_crossesThatTouchNone_4 rfl rfl ?_
      refine j_aload_n (pc' := 6) cx 0 dX5_crossesThatTouchNone_5 rfl rfl ?_
      refine j_get (C := RX5) (T := TX5) (N := 4) (pc' := 9) cx uB_X5 5 rfl rfl 0 (by decide) wF_X5_12 (.ref hCA) rfl dX5_crossesThatTouchNone_6 rfl ?_
      refine j_get (C := RX1) (T := TX1) (N := 3) (pc' := 12) cx uB_X1 2 rfl rfl 0 (by decide) wF_X5_42 (.ref hNW) rfl dX5_crossesThatTouchNone_9 rfl ?_
      refine j_get (C := RX4) (T := TX4) (N := 6) (pc' := 15) cx uB_X4 0 rfl rfl 1 (by decide) wF_X5_66 (.int NWco) rfl dX5_crossesThatTouchNone_12 rfl ?_
      refine j_icmp_ge (tgt := 47) (pc' := 18) cx dX5_crossesThatTouchNone_15 (by decide) rfl (fun ch_6 => ?_) (fun ch_6 => ?_)
      · have h_8 := it_t h_6 ch_6
        have h_9 := so_i h_8
        subst h_9
        have h_10 := so_i (se_r h_7)
        subst h_10
        refine j_lv (lv' := [(1, .int s1.1)]) cx [1] rfl ?_
        exact KXe2
      · have h_11 := it_f h_6 ch_6
        refine j_aload_n (pc' := 19) cx 0 dX5_crossesThatTouchNone_18 rfl rfl ?_
        refine j_aload_n (pc' := 20) cx 0 dX5_crossesThatTouchNone_19 rfl rfl ?_
        refine j_get (C := RX5) (T := TX5) (N := 4) (pc' := 23) cx uB_X5 5 rfl rfl 0 (by decide) wF_X5_12 (.ref hCA) rfl dX5_crossesThatTouchNone_20 rfl ?_
        refine j_get (C := RX1) (T := TX1) (N := 3) (pc' := 26) cx uB_X1 2 rfl rfl 0 (by decide) wF_X5_42 (.ref hNW) rfl dX5_crossesThatTouchNone_23 rfl ?_
        refine j_get (C := RX4) (T := TX4) (N := 6) (pc' := 29) cx uB_X4 0 rfl rfl 4 (by decide) wF_X5_46 (.ref hNWm) rfl dX5_crossesThatTouchNone_26 rfl ?_
        refine j_iload_n (pc' := 30) cx 2 dX5_crossesThatTouchNone_29 rfl rfl ?_
        obtain ⟨i3, h_12⟩ := ck_s h_11
        refine j_iald (pc' := 31) cx 1 0 rfl rfl i3 dX5_crossesThatTouchNone_30 rfl ?_
        refine j_iload_n (pc' := 32) cx 2 dX5_crossesThatTouchNone_31 rfl rfl ?_
        obtain ⟨r4, c5, h_13⟩ := bd_s h_12
        refine j_cV (pc' := 35) cx (c_X5_touchesAt l D cI cZ cC cS hNW hCA hCAo hCAp hSV hSVr hSVq hSVm CAow CApa (NWMa s1.2.toNatClampNeg) s1.2 r4 c5) 2 yk_X5_touchesAt wM_X5_70 ⟨wN_X5_touchesAt, wS_X5_touchesAt, wI_X5, wC_X5_touchesAt⟩ ⟨rfl, rfl, Nat.le_of_ble_eq_true rfl, Nat.le_of_ble_eq_true rfl, Nat.le_of_ble_eq_true rfl, Nat.le_of_ble_eq_true rfl⟩ [2, 3, 4, 5] [0, 1] [0, 1, 2, 3, 4, 5] rfl [(hNW, .inr (3, [.int NWru, .int NWco, .ref hNWk, .ref hNWt, .ref hNWm, .ref hNWc])), (hNWm, .inl (cI, 30, .inl NWMa))] rfl (by decide) [(hNW, .inr (3, [.int NWru, .int NWco, .ref hNWk, .ref hNWt, .ref hNWm, .ref hNWc])), (hNWm, .inl (cI, 30, .inl NWMa)), (hCA, .inr (0, [.ref hNW, .ref hCAo, .ref hCAp])), (hCAo, .inl (cI, 150, .inl CAow)), (hCAp, .inl (cI, 150, .inl CApa)), (hSV, .inr (4, [.ref hCA, .ref hSVr, .ref hSVq, .ref hSVm]))] rfl (by decide) 5 4 rfl rfl rfl rfl rfl (Nat.le_of_ble_eq_true rfl) dX5_crossesThatTouchNone_32 rfl ?_
        obtain ⟨t6, h_15, h_14⟩ := bd_s h_13
        have Kt6 : j 0 0 [(hNW, .inr (3, [.int NWru, .int NWco, .ref hNWk, .ref hNWt, .ref hNWm, .ref hNWc])), (hNWm, .inl (cI, 30, .inl NWMa)), (hCA, .inr (0, [.ref hNW, .ref hCAo, .ref hCAp])), (hCAo, .inl (cI, 150, .inl CAow)), (hCAp, .inl (cI, 150, .inl CApa)), (hSV, .inr (4, [.ref hCA, .ref hSVr, .ref hSVq, .ref hSVm]))] [(0, .ref hSV), (1, .int t6), (2, .int s1.2)] 41 [] := by
          refine j_iinc (v := (s1.2 + 1)) (lv' := [(2, .int (s1.2 + 1)), (0, .ref hSV), (1, .int t6)]) (pc' := 44) cx 2 dX5_crossesThatTouchNone_41 rfl (kn_1 _) (by decide) rfl rfl ?_
          refine j_goto (pc' := 4) cx dX5_crossesThatTouchNone_44 (by decide) ?_
          have h_16 := so_i h_14
          subst h_16
          refine j_lv (lv' := [(0, .ref hSV), (1, .int t6), (2, .int (s1.2 + 1))]) cx [1, 2, 0] rfl ?_
          exact ihe2 _ (se_l h_7)
        refine j_if_ne (tgt := 41) (pc' := 38) cx dX5_crossesThatTouchNone_35 (by decide) rfl (fun ch_15 => ?_) (fun ch_15 => ?_)
        · have h_17 := it_f h_15 ch_15
          have h_18 := so_i h_17
          subst h_18
          exact Kt6
        · have h_19 := it_t h_15 ch_15
          refine j_iinc (v := (s1.1 + 1)) (lv' := [(1, .int (s1.1 + 1)), (0, .ref hSV), (2, .int s1.2)]) (pc' := 41) cx 1 dX5_crossesThatTouchNone_38 rfl (kn_1 _) (by decide) rfl rfl ?_
          have h_20 := so_i h_19
          subst h_20
          refine j_lv (lv' := [(0, .ref hSV), (1, .int (s1.1 + 1)), (2, .int s1.2)]) cx [1, 0, 2] rfl ?_
          exact Kt6
  refine j_lv (lv' := [(0, .ref hSV), (1, .int 0), (2, .int 0)]) cx [2, 1, 0] rfl ?_
  exact LPe2 _ _ h_1
set_option maxHeartbeats 4000000 in
set_option maxRecDepth 100000 in
theorem c_X5_forgetReached (l : Launch) (D : va_G) (cI cZ cC cS : ClassId) (hCA hSV hSVr hSVq hSVm : Nat) (SVre : Nat → Int32) (out : (Nat → Int32)) (hm : f_X5_forgetReached SVre = some out) : Ct l yX5_forgetReached cX5_forgetReached 2 none ({ frames := 0, cells := 0, slots := 0, locals := 0 }) (D, TY cI cZ cC cS) [.ref hSV] [(hSV, .inr (4, [.ref hCA, .ref hSVr, .ref hSVq, .ref hSVm])), (hSVr, .inl (cZ, 150, .inl SVre))] (jw_P none [(hSV, .inr (4, [.ref hCA, .ref hSVr, .ref hSVq, .ref hSVm])), (hSVr, .inl (cZ, 150, .inl out))]) 0 0 := by
  refine ct_of RX5 (by decide +kernel) rfl (Nat.le_of_ble_eq_true rfl) (fun j cx => ?_)
  unfold f_X5_forgetReached at hm
  show j 0 0 [(hSV, .inr (4, [.ref hCA, .ref hSVr, .ref hSVq, .ref hSVm])), (hSVr, .inl (cZ, 150, .inl SVre))] [(0, .ref hSV)] 0 []
  refine j_iconst (pc' := 1) cx 0 dX5_forgetReached_0 ki_0 rfl ?_
  refine j_istore_n (lv' := [(1, .int 0), (0, .ref hSV)]) (pc' := 2) cx dX5_forgetReached_1 (by decide) rfl rfl ?_
  obtain ⟨e2, h_1, h_2⟩ := bd_s hm
  have KXe2 : j 0 0 [(hSV, .inr (4, [.ref hCA, .ref hSVr, .ref hSVq, .ref hSVm])), (hSVr, .inl (cZ, 150, .inl e2.2))] [] 22 [] := by
    have h_3 := so_i h_2
    subst h_3
    exact j_ret cx (Or.inl ⟨rfl, dX5_forgetReached_22, rfl, rfl⟩) ⟨rfl, rfl⟩
  have LPe2 : ∀ (n : Nat) (s1 : Int32 × (Nat → Int32)), lp (f_X5_forgetReached_b1) n s1 = some e2 → j 0 0 [(hSV, .inr (4, [.ref hCA, .ref hSVr, .ref hSVq, .ref hSVm])), (hSVr, .inl (cZ, 150, .inl s1.2))] [(0, .ref hSV), (1, .int s1.1)] 2 [] := by
    intro n
    induction n with
    | zero => intro s1 z; exact absurd z (by intro z; cases z)
    | succ n ihe2 =>
      intro s1 h_4
      obtain ⟨q_5, h_6, h_7⟩ := bd_s h_4
      unfold f_X5_forgetReached_b1 at h_6
      refine j_iload_n (pc' := 3) cx 1 dX5_forgetReached_2 rfl rfl ?_
      refine j_sipush (pc' := 6) cx 150 dX5_forgetReached_3 ks_150 rfl ?_
      refine j_icmp_ge (tgt := 22) (pc' := 9) cx dX5_forgetReached_6 (by decide) rfl (fun ch_6 => ?_) (fun ch_6 => ?_)
      · have h_8 := it_t h_6 ch_6
        have h_9 := so_i h_8
        subst h_9
        have h_10 := so_i (se_r h_7)
        subst h_10
        refine j_lv (lv' := []) cx [] rfl ?_
        exact KXe2
      · have h_11 := it_f h_6 ch_6
        refine j_aload_n (pc' := 10) cx 0 dX5_forgetReached_9 rfl rfl ?_
        refine j_get (C := RX5) (T := TX5) (N := 4) (pc' := 13) cx uB_X5 0 rfl rfl 1 (by decide) wF_X5_18 (.ref hSVr) rfl dX5_forgetReached_10 rfl ?_
        refine j_iload_n (pc' := 14) cx 1 dX5_forgetReached_13 rfl rfl ?_
        refine j_iconst (pc' := 15) cx 0 dX5_forgetReached_14 ki_0 rfl ?_
        obtain ⟨i3, h_12⟩ := ck_s h_11
        refine j_zast (ws' := [(hSV, .inr (4, [.ref hCA, .ref hSVr, .ref hSVq, .ref hSVm])), (hSVr, .inl (cZ, 150, .inl (upd s1.2 s1.1.toNatClampNeg (vp_nar .boolean 0))))]) (pc' := 16) cx 1 1 rfl rfl i3 rfl dX5_forgetReached_15 rfl ?_
        refine j_iinc (v := (s1.1 + 1)) (lv' := [(1, .int (s1.1 + 1)), (0, .ref hSV)]) (pc' := 19) cx 1 dX5_forgetReached_16 rfl (kn_1 _) (by decide) rfl rfl ?_
        refine j_goto (pc' := 2) cx dX5_forgetReached_19 (by decide) ?_
        have h_13 := so_i h_12
        subst h_13
        refine j_lv (lv' := [(0, .ref hSV), (1, .int (s1.1 + 1))]) cx [1, 0] rfl ?_
        exact ihe2 _ (se_l h_7)
  refine j_lv (lv' := [(0, .ref hSV), (1, .int 0)]) cx [1, 0] rfl ?_
  exact LPe2 _ _ h_1
set_option maxHeartbeats 4000000 in
set_option maxRecDepth 100000 in
theorem c_X5_reachRegion (l : Launch) (D : va_G) (cI cZ cC cS : ClassId) (hNW hCA hCAo hCAp hSV hSVr hSVq hSVm : Nat) (CAow : Nat → Int32) (SVre : Nat → Int32) (SVqu : Nat → Int32) (p0 : Int32) (p1 : Int32) (out : Int32 × (Nat → Int32) × (Nat → Int32)) (hm : f_X5_reachRegion CAow SVre SVqu p0 p1 = some out) : Ct l yX5_reachRegion cX5_reachRegion 7 (some .int) ({ frames := 2, cells := 0, slots := 0, locals := 45 }) (D, TY cI cZ cC cS) [.ref hSV, .int p0, .int p1] [(hCA, .inr (0, [.ref hNW, .ref hCAo, .ref hCAp])), (hCAo, .inl (cI, 150, .inl CAow)), (hSV, .inr (4, [.ref hCA, .ref hSVr, .ref hSVq, .ref hSVm])), (hSVr, .inl (cZ, 150, .inl SVre)), (hSVq, .inl (cI, 150, .inl SVqu))] (jw_P (some (.int out.1)) [(hCA, .inr (0, [.ref hNW, .ref hCAo, .ref hCAp])), (hCAo, .inl (cI, 150, .inl CAow)), (hSV, .inr (4, [.ref hCA, .ref hSVr, .ref hSVq, .ref hSVm])), (hSVr, .inl (cZ, 150, .inl out.2.1)), (hSVq, .inl (cI, 150, .inl out.2.2))]) 0 0 := by
  refine ct_of RX5 (by decide +kernel) rfl (Nat.le_of_ble_eq_true rfl) (fun j cx => ?_)
  unfold f_X5_reachRegion at hm
  show j 0 0 [(hCA, .inr (0, [.ref hNW, .ref hCAo, .ref hCAp])), (hCAo, .inl (cI, 150, .inl CAow)), (hSV, .inr (4, [.ref hCA, .ref hSVr, .ref hSVq, .ref hSVm])), (hSVr, .inl (cZ, 150, .inl SVre)), (hSVq, .inl (cI, 150, .inl SVqu))] [(0, .ref hSV), (1, .int p0), (2, .int p1)] 0 []
  refine j_aload_n (pc' := 1) cx 0 dX5_reachRegion_0 rfl rfl ?_
  refine j_get (C := RX5) (T := TX5) (N := 4) (pc' := 4) cx uB_X5 2 rfl rfl 1 (by decide) wF_X5_18 (.ref hSVr) rfl dX5_reachRegion_1 rfl ?_
  refine j_iload_n (pc' := 5) cx 1 dX5_reachRegion_4 rfl rfl ?_
  refine j_iconst (pc' := 6) cx 1 dX5_reachRegion_5 ki_1 rfl ?_
  obtain ⟨i1, h_1⟩ := ck_s hm
  refine j_zast (ws' := [(hCA, .inr (0, [.ref hNW, .ref hCAo, .ref hCAp])), (hCAo, .inl (cI, 150, .inl CAow)), (hSV, .inr (4, [.ref hCA, .ref hSVr, .ref hSVq, .ref hSVm])), (hSVr, .inl (cZ, 150, .inl (upd SVre p0.toNatClampNeg (vp_nar .boolean 1)))), (hSVq, .inl (cI, 150, .inl SVqu))]) (pc' := 7) cx 3 1 rfl rfl i1 rfl dX5_reachRegion_6 rfl ?_
  refine j_aload_n (pc' := 8) cx 0 dX5_reachRegion_7 rfl rfl ?_
  refine j_get (C := RX5) (T := TX5) (N := 4) (pc' := 11) cx uB_X5 2 rfl rfl 2 (by decide) wF_X5_22 (.ref hSVq) rfl dX5_reachRegion_8 rfl ?_
  refine j_iconst (pc' := 12) cx 0 dX5_reachRegion_11 ki_0 rfl ?_
  refine j_iload_n (pc' := 13) cx 1 dX5_reachRegion_12 rfl rfl ?_
  obtain ⟨i2, h_2⟩ := ck_s h_1
  refine j_iast (ws' := [(hCA, .inr (0, [.ref hNW, .ref hCAo, .ref hCAp])), (hCAo, .inl (cI, 150, .inl CAow)), (hSV, .inr (4, [.ref hCA, .ref hSVr, .ref hSVq, .ref hSVm])), (hSVr, .inl (cZ, 150, .inl (upd SVre p0.toNatClampNeg (vp_nar .boolean 1)))), (hSVq, .inl (cI, 150, .inl (upd SVqu (0 : Int32).toNatClampNeg p0)))]) (pc' := 14) cx 4 0 rfl rfl i2 rfl dX5_reachRegion_13 rfl ?_
  refine j_iconst (pc' := 15) cx 1 dX5_reachRegion_14 ki_1 rfl ?_
  refine j_istore_n (lv' := [(3, .int 1), (0, .ref hSV), (1, .int p0), (2, .int p1)]) (pc' := 16) cx dX5_reachRegion_15 (by decide) rfl rfl ?_
  refine j_iconst (pc' := 17) cx 0 dX5_reachRegion_16 ki_0 rfl ?_
  refine j_istore (lv' := [(4, .int 0), (3, .int 1), (0, .ref hSV), (1, .int p0), (2, .int p1)]) (pc' := 19) cx dX5_reachRegion_17 (by decide) rfl rfl ?_
  obtain ⟨e4, h_3, h_4⟩ := bd_s h_2
  have KXe4 : j 0 0 [(hCA, .inr (0, [.ref hNW, .ref hCAo, .ref hCAp])), (hCAo, .inl (cI, 150, .inl CAow)), (hSV, .inr (4, [.ref hCA, .ref hSVr, .ref hSVq, .ref hSVm])), (hSVr, .inl (cZ, 150, .inl e4.2.2.1)), (hSVq, .inl (cI, 150, .inl e4.2.2.2))] [(3, .int e4.1)] 117 [] := by
    refine j_iload_n (pc' := 118) cx 0 dX5_reachRegion_117 rfl rfl ?_
    have h_5 := so_i h_4
    subst h_5
    exact j_ret cx (Or.inr (Or.inl ⟨_, _, rfl, rfl, dX5_reachRegion_118, rfl, rfl⟩)) ⟨rfl, rfl⟩
  have LPe4 : ∀ (n : Nat) (s3 : Int32 × Int32 × (Nat → Int32) × (Nat → Int32)), lp (f_X5_reachRegion_b2 CAow p1) n s3 = some e4 → j 0 0 [(hCA, .inr (0, [.ref hNW, .ref hCAo, .ref hCAp])), (hCAo, .inl (cI, 150, .inl CAow)), (hSV, .inr (4, [.ref hCA, .ref hSVr, .ref hSVq, .ref hSVm])), (hSVr, .inl (cZ, 150, .inl s3.2.2.1)), (hSVq, .inl (cI, 150, .inl s3.2.2.2))] [(0, .ref hSV), (2, .int p1), (3, .int s3.1), (4, .int s3.2.1)] 19 [] := by
    intro n
    induction n with
    | zero => intro s3 z; exact absurd z (by intro z; cases z)
    | succ n ihe4 =>
      intro s3 h_6
      obtain ⟨q_7, h_8, h_9⟩ := bd_s h_6
      unfold f_X5_reachRegion_b2 at h_8
      refine j_iload (pc' := 21) cx 3 dX5_reachRegion_19 rfl rfl ?_
      refine j_iload_n (pc' := 22) cx 2 dX5_reachRegion_21 rfl rfl ?_
      refine j_icmp_ge (tgt := 117) (pc' := 25) cx dX5_reachRegion_22 (by decide) rfl (fun ch_8 => ?_) (fun ch_8 => ?_)
      · have h_10 := it_t h_8 ch_8
        have h_11 := so_i h_10
        subst h_11
        have h_12 := so_i (se_r h_9)
        subst h_12
        refine j_lv (lv' := [(3, .int s3.1)]) cx [2] rfl ?_
        exact KXe4
      · have h_13 := it_f h_8 ch_8
        refine j_iload (pc' := 27) cx 3 dX5_reachRegion_25 rfl rfl ?_
        refine j_sipush (pc' := 30) cx 150 dX5_reachRegion_27 ks_150 rfl ?_
        refine j_icmp_ge (tgt := 117) (pc' := 33) cx dX5_reachRegion_30 (by decide) rfl (fun ch_13 => ?_) (fun ch_13 => ?_)
        · have h_14 := it_t h_13 ch_13
          have h_15 := so_i h_14
          subst h_15
          have h_16 := so_i (se_r h_9)
          subst h_16
          refine j_lv (lv' := [(3, .int s3.1)]) cx [2] rfl ?_
          exact KXe4
        · have h_17 := it_f h_13 ch_13
          refine j_iconst (pc' := 34) cx 0 dX5_reachRegion_33 ki_0 rfl ?_
          refine j_istore (lv' := [(5, .int 0), (0, .ref hSV), (2, .int p1), (3, .int s3.1), (4, .int s3.2.1)]) (pc' := 36) cx dX5_reachRegion_34 (by decide) rfl rfl ?_
          obtain ⟨e6, h_18, h_19⟩ := bd_s h_17
          have KXe6 : j 0 0 [(hCA, .inr (0, [.ref hNW, .ref hCAo, .ref hCAp])), (hCAo, .inl (cI, 150, .inl CAow)), (hSV, .inr (4, [.ref hCA, .ref hSVr, .ref hSVq, .ref hSVm])), (hSVr, .inl (cZ, 150, .inl e6.2.2.1)), (hSVq, .inl (cI, 150, .inl e6.2.2.2))] [(0, .ref hSV), (2, .int p1), (3, .int e6.1), (4, .int s3.2.1)] 111 [] := by
            refine j_iinc (v := (s3.2.1 + 1)) (lv' := [(4, .int (s3.2.1 + 1)), (0, .ref hSV), (2, .int p1), (3, .int e6.1)]) (pc' := 114) cx 3 dX5_reachRegion_111 rfl (kn_1 _) (by decide) rfl rfl ?_
            refine j_goto (pc' := 19) cx dX5_reachRegion_114 (by decide) ?_
            have h_20 := so_i h_19
            subst h_20
            refine j_lv (lv' := [(0, .ref hSV), (2, .int p1), (3, .int e6.1), (4, .int (s3.2.1 + 1))]) cx [1, 2, 3, 0] rfl ?_
            exact ihe4 _ (se_l h_9)
          have LPe6 : ∀ (n : Nat) (s5 : Int32 × Int32 × (Nat → Int32) × (Nat → Int32)), lp (f_X5_reachRegion_b1 CAow p1 s3) n s5 = some e6 → j 0 0 [(hCA, .inr (0, [.ref hNW, .ref hCAo, .ref hCAp])), (hCAo, .inl (cI, 150, .inl CAow)), (hSV, .inr (4, [.ref hCA, .ref hSVr, .ref hSVq, .ref hSVm])), (hSVr, .inl (cZ, 150, .inl s5.2.2.1)), (hSVq, .inl (cI, 150, .inl s5.2.2.2))] [(0, .ref hSV), (2, .int p1), (3, .int s5.1), (4, .int s3.2.1), (5, .int s5.2.1)] 36 [] := by
            intro n
            induction n with
            | zero => intro s5 z; exact absurd z (by intro z; cases z)
            | succ n ihe6 =>
              intro s5 h_21
              obtain ⟨q_22, h_23, h_24⟩ := bd_s h_21
              unfold f_X5_reachRegion_b1 at h_23
              refine j_iload (pc' := 38) cx 4 dX5_reachRegion_36 rfl rfl ?_
              refine j_iconst (pc' := 39) cx 4 dX5_reachRegion_38 ki_4 rfl ?_
              refine j_icmp_ge (tgt := 111) (pc' := 42) cx dX5_reachRegion_39 (by decide) rfl (fun ch_23 => ?_) (fun ch_23 => ?_)
              · have h_25 := it_t h_23 ch_23
                have h_26 := so_i h_25
                subst h_26
                have h_27 := so_i (se_r h_24)
                subst h_27
                refine j_lv (lv' := [(0, .ref hSV), (2, .int p1), (3, .int s5.1), (4, .int s3.2.1)]) cx [0, 1, 2, 3] rfl ?_
                exact KXe6
              · have h_28 := it_f h_23 ch_23
                refine j_aload_n (pc' := 43) cx 0 dX5_reachRegion_42 rfl rfl ?_
                refine j_get (C := RX5) (T := TX5) (N := 4) (pc' := 46) cx uB_X5 2 rfl rfl 2 (by decide) wF_X5_22 (.ref hSVq) rfl dX5_reachRegion_43 rfl ?_
                refine j_iload (pc' := 48) cx 3 dX5_reachRegion_46 rfl rfl ?_
                obtain ⟨i7, h_29⟩ := ck_s h_28
                refine j_iald (pc' := 49) cx 4 0 rfl rfl i7 dX5_reachRegion_48 rfl ?_
                refine j_iload (pc' := 51) cx 4 dX5_reachRegion_49 rfl rfl ?_
                obtain ⟨r8, c9, h_30⟩ := bd_s h_29
                refine j_cS (pc' := 54) cx (c_X0_beside l D cI cZ cC cS (s5.2.2.2 s3.2.1.toNatClampNeg) s5.2.1 r8 c9) 2 yk_X0_beside wM_X5_29 ⟨wT_X0_beside, wI_X0, wC_X0_beside⟩ ⟨rfl, rfl, Nat.le_of_ble_eq_true rfl, Nat.le_of_ble_eq_true rfl, Nat.le_of_ble_eq_true rfl, Nat.le_of_ble_eq_true rfl⟩ [] [0, 1, 2, 3, 4] [0, 1, 2, 3, 4] rfl [(hCA, .inr (0, [.ref hNW, .ref hCAo, .ref hCAp])), (hCAo, .inl (cI, 150, .inl CAow)), (hSV, .inr (4, [.ref hCA, .ref hSVr, .ref hSVq, .ref hSVm])), (hSVr, .inl (cZ, 150, .inl s5.2.2.1)), (hSVq, .inl (cI, 150, .inl s5.2.2.2))] rfl (by decide) [(hCA, .inr (0, [.ref hNW, .ref hCAo, .ref hCAp])), (hCAo, .inl (cI, 150, .inl CAow)), (hSV, .inr (4, [.ref hCA, .ref hSVr, .ref hSVq, .ref hSVm])), (hSVr, .inl (cZ, 150, .inl s5.2.2.1)), (hSVq, .inl (cI, 150, .inl s5.2.2.2))] rfl (by decide) rfl rfl (Nat.le_of_ble_eq_true rfl) dX5_reachRegion_51 rfl ?_
                refine j_istore (lv' := [(6, .int r8), (0, .ref hSV), (2, .int p1), (3, .int s5.1), (4, .int s3.2.1), (5, .int s5.2.1)]) (pc' := 56) cx dX5_reachRegion_54 (by decide) rfl rfl ?_
                refine j_aload_n (pc' := 57) cx 1 dX5_reachRegion_56 rfl rfl ?_
                refine j_get (C := RX5) (T := TX5) (N := 4) (pc' := 60) cx uB_X5 2 rfl rfl 1 (by decide) wF_X5_18 (.ref hSVr) rfl dX5_reachRegion_57 rfl ?_
                refine j_iload (pc' := 62) cx 0 dX5_reachRegion_60 rfl rfl ?_
                obtain ⟨i10, h_31⟩ := ck_s h_30
                refine j_zald (pc' := 63) cx 3 1 rfl rfl i10 dX5_reachRegion_62 rfl ?_
                obtain ⟨t15, h_33, h_32⟩ := bd_s h_31
                have Kt15 : j 0 0 [(hCA, .inr (0, [.ref hNW, .ref hCAo, .ref hCAp])), (hCAo, .inl (cI, 150, .inl CAow)), (hSV, .inr (4, [.ref hCA, .ref hSVr, .ref hSVq, .ref hSVm])), (hSVr, .inl (cZ, 150, .inl t15.2.1)), (hSVq, .inl (cI, 150, .inl t15.2.2))] [(0, .ref hSV), (2, .int p1), (3, .int t15.1), (4, .int s3.2.1), (5, .int s5.2.1)] 105 [] := by
                  refine j_iinc (v := (s5.2.1 + 1)) (lv' := [(5, .int (s5.2.1 + 1)), (0, .ref hSV), (2, .int p1), (3, .int t15.1), (4, .int s3.2.1)]) (pc' := 108) cx 4 dX5_reachRegion_105 rfl (kn_1 _) (by decide) rfl rfl ?_
                  refine j_goto (pc' := 36) cx dX5_reachRegion_108 (by decide) ?_
                  have h_34 := so_i h_32
                  subst h_34
                  refine j_lv (lv' := [(0, .ref hSV), (2, .int p1), (3, .int t15.1), (4, .int s3.2.1), (5, .int (s5.2.1 + 1))]) cx [1, 2, 3, 4, 0] rfl ?_
                  exact ihe6 _ (se_l h_24)
                refine j_if_ne (tgt := 105) (pc' := 66) cx dX5_reachRegion_63 (by decide) rfl (fun ch_33 => ?_) (fun ch_33 => ?_)
                · have h_35 := it_f h_33 ch_33
                  have h_36 := so_i h_35
                  subst h_36
                  refine j_lv (lv' := [(0, .ref hSV), (2, .int p1), (3, .int s5.1), (4, .int s3.2.1), (5, .int s5.2.1)]) cx [1, 2, 3, 4, 5] rfl ?_
                  exact Kt15
                · have h_37 := it_t h_33 ch_33
                  refine j_aload_n (pc' := 67) cx 1 dX5_reachRegion_66 rfl rfl ?_
                  refine j_get (C := RX5) (T := TX5) (N := 4) (pc' := 70) cx uB_X5 2 rfl rfl 0 (by decide) wF_X5_12 (.ref hCA) rfl dX5_reachRegion_67 rfl ?_
                  refine j_iload (pc' := 72) cx 0 dX5_reachRegion_70 rfl rfl ?_
                  obtain ⟨r11, c12, h_38⟩ := bd_s h_37
                  refine j_cV (pc' := 75) cx (c_X1_isFree l D cI cZ cC cS hNW hCA hCAo hCAp CAow r8 r11 c12) 1 yk_X1_isFree wM_X5_35 ⟨wN_X1_isFree, wS_X1_isFree, wI_X1, wC_X1_isFree⟩ ⟨rfl, rfl, Nat.le_of_ble_eq_true rfl, Nat.le_of_ble_eq_true rfl, Nat.le_of_ble_eq_true rfl, Nat.le_of_ble_eq_true rfl⟩ [0, 1] [2, 3, 4] [3, 4, 0, 1, 2] rfl [(hSV, .inr (4, [.ref hCA, .ref hSVr, .ref hSVq, .ref hSVm])), (hSVr, .inl (cZ, 150, .inl s5.2.2.1)), (hSVq, .inl (cI, 150, .inl s5.2.2.2))] rfl (by decide) [(hCA, .inr (0, [.ref hNW, .ref hCAo, .ref hCAp])), (hCAo, .inl (cI, 150, .inl CAow)), (hSV, .inr (4, [.ref hCA, .ref hSVr, .ref hSVq, .ref hSVm])), (hSVr, .inl (cZ, 150, .inl s5.2.2.1)), (hSVq, .inl (cI, 150, .inl s5.2.2.2))] rfl (by decide) 0 0 rfl rfl rfl rfl rfl (Nat.le_of_ble_eq_true rfl) dX5_reachRegion_72 rfl ?_
                  refine j_iload_n (pc' := 76) cx 2 dX5_reachRegion_75 rfl rfl ?_
                  refine j_icmp_ne (tgt := 105) (pc' := 79) cx dX5_reachRegion_76 (by decide) rfl (fun ch_38 => ?_) (fun ch_38 => ?_)
                  · have h_39 := it_f h_38 ch_38
                    have h_40 := so_i h_39
                    subst h_40
                    refine j_lv (lv' := [(0, .ref hSV), (2, .int p1), (3, .int s5.1), (4, .int s3.2.1), (5, .int s5.2.1)]) cx [1, 2, 3, 4, 5] rfl ?_
                    exact Kt15
                  · have h_41 := it_t h_38 ch_38
                    refine j_iload_n (pc' := 80) cx 3 dX5_reachRegion_79 rfl rfl ?_
                    refine j_sipush (pc' := 83) cx 150 dX5_reachRegion_80 ks_150 rfl ?_
                    refine j_icmp_ge (tgt := 105) (pc' := 86) cx dX5_reachRegion_83 (by decide) rfl (fun ch_41 => ?_) (fun ch_41 => ?_)
                    · have h_42 := it_t h_41 ch_41
                      have h_43 := so_i h_42
                      subst h_43
                      refine j_lv (lv' := [(0, .ref hSV), (2, .int p1), (3, .int s5.1), (4, .int s3.2.1), (5, .int s5.2.1)]) cx [1, 2, 3, 4, 5] rfl ?_
                      exact Kt15
                    · have h_44 := it_f h_41 ch_41
                      refine j_aload_n (pc' := 87) cx 1 dX5_reachRegion_86 rfl rfl ?_
                      refine j_get (C := RX5) (T := TX5) (N := 4) (pc' := 90) cx uB_X5 2 rfl rfl 1 (by decide) wF_X5_18 (.ref hSVr) rfl dX5_reachRegion_87 rfl ?_
                      refine j_iload (pc' := 92) cx 0 dX5_reachRegion_90 rfl rfl ?_
                      refine j_iconst (pc' := 93) cx 1 dX5_reachRegion_92 ki_1 rfl ?_
                      obtain ⟨i13, h_45⟩ := ck_s h_44
                      refine j_zast (ws' := [(hCA, .inr (0, [.ref hNW, .ref hCAo, .ref hCAp])), (hCAo, .inl (cI, 150, .inl CAow)), (hSV, .inr (4, [.ref hCA, .ref hSVr, .ref hSVq, .ref hSVm])), (hSVr, .inl (cZ, 150, .inl (upd s5.2.2.1 r8.toNatClampNeg (vp_nar .boolean 1)))), (hSVq, .inl (cI, 150, .inl s5.2.2.2))]) (pc' := 94) cx 3 1 rfl rfl i13 rfl dX5_reachRegion_93 rfl ?_
                      refine j_aload_n (pc' := 95) cx 1 dX5_reachRegion_94 rfl rfl ?_
                      refine j_get (C := RX5) (T := TX5) (N := 4) (pc' := 98) cx uB_X5 2 rfl rfl 2 (by decide) wF_X5_22 (.ref hSVq) rfl dX5_reachRegion_95 rfl ?_
                      refine j_iload_n (pc' := 99) cx 3 dX5_reachRegion_98 rfl rfl ?_
                      refine j_iload (pc' := 101) cx 0 dX5_reachRegion_99 rfl rfl ?_
                      obtain ⟨i14, h_46⟩ := ck_s h_45
                      refine j_iast (ws' := [(hCA, .inr (0, [.ref hNW, .ref hCAo, .ref hCAp])), (hCAo, .inl (cI, 150, .inl CAow)), (hSV, .inr (4, [.ref hCA, .ref hSVr, .ref hSVq, .ref hSVm])), (hSVr, .inl (cZ, 150, .inl (upd s5.2.2.1 r8.toNatClampNeg (vp_nar .boolean 1)))), (hSVq, .inl (cI, 150, .inl (upd s5.2.2.2 s5.1.toNatClampNeg r8)))]) (pc' := 102) cx 4 0 rfl rfl i14 rfl dX5_reachRegion_101 rfl ?_
                      refine j_iinc (v := (s5.1 + 1)) (lv' := [(3, .int (s5.1 + 1)), (6, .int r8), (0, .ref hSV), (2, .int p1), (4, .int s3.2.1), (5, .int s5.2.1)]) (pc' := 105) cx 3 dX5_reachRegion_102 rfl (kn_1 _) (by decide) rfl rfl ?_
                      have h_47 := so_i h_46
                      subst h_47
                      refine j_lv (lv' := [(0, .ref hSV), (2, .int p1), (3, .int (s5.1 + 1)), (4, .int s3.2.1), (5, .int s5.2.1)]) cx [2, 3, 0, 4, 5] rfl ?_
                      exact Kt15
          refine j_lv (lv' := [(0, .ref hSV), (2, .int p1), (3, .int s3.1), (4, .int s3.2.1), (5, .int 0)]) cx [1, 2, 3, 4, 0] rfl ?_
          exact LPe6 _ _ h_18
  refine j_lv (lv' := [(0, .ref hSV), (2, .int p1), (3, .int 1), (4, .int 0)]) cx [2, 4, 1, 0] rfl ?_
  exact LPe4 _ _ h_3
set_option maxHeartbeats 4000000 in
set_option maxRecDepth 100000 in
theorem c_X5_countRegions (l : Launch) (D : va_G) (cI cZ cC cS : ClassId) (hNW hCA hCAo hCAp hSV hSVr hSVq hSVm : Nat) (CAow : Nat → Int32) (SVre : Nat → Int32) (SVqu : Nat → Int32) (p0 : Int32) (out : Int32 × (Nat → Int32) × (Nat → Int32)) (hm : f_X5_countRegions CAow SVre SVqu p0 = some out) : Ct l yX5_countRegions cX5_countRegions 4 (some .int) ({ frames := 3, cells := 0, slots := 0, locals := 71 }) (D, TY cI cZ cC cS) [.ref hSV, .int p0] [(hCA, .inr (0, [.ref hNW, .ref hCAo, .ref hCAp])), (hCAo, .inl (cI, 150, .inl CAow)), (hSV, .inr (4, [.ref hCA, .ref hSVr, .ref hSVq, .ref hSVm])), (hSVr, .inl (cZ, 150, .inl SVre)), (hSVq, .inl (cI, 150, .inl SVqu))] (jw_P (some (.int out.1)) [(hCA, .inr (0, [.ref hNW, .ref hCAo, .ref hCAp])), (hCAo, .inl (cI, 150, .inl CAow)), (hSV, .inr (4, [.ref hCA, .ref hSVr, .ref hSVq, .ref hSVm])), (hSVr, .inl (cZ, 150, .inl out.2.1)), (hSVq, .inl (cI, 150, .inl out.2.2))]) 0 0 := by
  refine ct_of RX5 (by decide +kernel) rfl (Nat.le_of_ble_eq_true rfl) (fun j cx => ?_)
  unfold f_X5_countRegions at hm
  show j 0 0 [(hCA, .inr (0, [.ref hNW, .ref hCAo, .ref hCAp])), (hCAo, .inl (cI, 150, .inl CAow)), (hSV, .inr (4, [.ref hCA, .ref hSVr, .ref hSVq, .ref hSVm])), (hSVr, .inl (cZ, 150, .inl SVre)), (hSVq, .inl (cI, 150, .inl SVqu))] [(0, .ref hSV), (1, .int p0)] 0 []
  refine j_aload_n (pc' := 1) cx 0 dX5_countRegions_0 rfl rfl ?_
  obtain ⟨r1, c2, h_1⟩ := bd_s hm
  refine j_cV (pc' := 4) cx (c_X5_forgetReached l D cI cZ cC cS hCA hSV hSVr hSVq hSVm SVre r1 c2) 0 yk_X5_forgetReached wM_X5_76 ⟨wN_X5_forgetReached, wS_X5_forgetReached, wI_X5, wC_X5_forgetReached⟩ ⟨rfl, rfl, Nat.le_of_ble_eq_true rfl, Nat.le_of_ble_eq_true rfl, Nat.le_of_ble_eq_true rfl, Nat.le_of_ble_eq_true rfl⟩ [2, 3] [0, 1, 4] [0, 1, 3, 4, 2] rfl [(hCA, .inr (0, [.ref hNW, .ref hCAo, .ref hCAp])), (hCAo, .inl (cI, 150, .inl CAow)), (hSVq, .inl (cI, 150, .inl SVqu))] rfl (by decide) [(hCA, .inr (0, [.ref hNW, .ref hCAo, .ref hCAp])), (hCAo, .inl (cI, 150, .inl CAow)), (hSV, .inr (4, [.ref hCA, .ref hSVr, .ref hSVq, .ref hSVm])), (hSVr, .inl (cZ, 150, .inl r1)), (hSVq, .inl (cI, 150, .inl SVqu))] rfl (by decide) 2 4 rfl rfl rfl rfl rfl (Nat.le_of_ble_eq_true rfl) dX5_countRegions_1 rfl ?_
  refine j_iconst (pc' := 5) cx 0 dX5_countRegions_4 ki_0 rfl ?_
  refine j_istore_n (lv' := [(2, .int 0), (0, .ref hSV), (1, .int p0)]) (pc' := 6) cx dX5_countRegions_5 (by decide) rfl rfl ?_
  refine j_iconst (pc' := 7) cx 0 dX5_countRegions_6 ki_0 rfl ?_
  refine j_istore_n (lv' := [(3, .int 0), (2, .int 0), (0, .ref hSV), (1, .int p0)]) (pc' := 8) cx dX5_countRegions_7 (by decide) rfl rfl ?_
  obtain ⟨e4, h_2, h_3⟩ := bd_s h_1
  have KXe4 : j 0 0 [(hCA, .inr (0, [.ref hNW, .ref hCAo, .ref hCAp])), (hCAo, .inl (cI, 150, .inl CAow)), (hSV, .inr (4, [.ref hCA, .ref hSVr, .ref hSVq, .ref hSVm])), (hSVr, .inl (cZ, 150, .inl e4.2.2.1)), (hSVq, .inl (cI, 150, .inl e4.2.2.2))] [(2, .int e4.1)] 52 [] := by
    refine j_iload_n (pc' := 53) cx 0 dX5_countRegions_52 rfl rfl ?_
    have h_4 := so_i h_3
    subst h_4
    exact j_ret cx (Or.inr (Or.inl ⟨_, _, rfl, rfl, dX5_countRegions_53, rfl, rfl⟩)) ⟨rfl, rfl⟩
  have LPe4 : ∀ (n : Nat) (s3 : Int32 × Int32 × (Nat → Int32) × (Nat → Int32)), lp (f_X5_countRegions_b1 CAow p0) n s3 = some e4 → j 0 0 [(hCA, .inr (0, [.ref hNW, .ref hCAo, .ref hCAp])), (hCAo, .inl (cI, 150, .inl CAow)), (hSV, .inr (4, [.ref hCA, .ref hSVr, .ref hSVq, .ref hSVm])), (hSVr, .inl (cZ, 150, .inl s3.2.2.1)), (hSVq, .inl (cI, 150, .inl s3.2.2.2))] [(0, .ref hSV), (1, .int p0), (2, .int s3.1), (3, .int s3.2.1)] 8 [] := by
    intro n
    induction n with
    | zero => intro s3 z; exact absurd z (by intro z; cases z)
    | succ n ihe4 =>
      intro s3 h_5
      obtain ⟨q_6, h_7, h_8⟩ := bd_s h_5
      unfold f_X5_countRegions_b1 at h_7
      refine j_iload_n (pc' := 9) cx 3 dX5_countRegions_8 rfl rfl ?_
      refine j_sipush (pc' := 12) cx 150 dX5_countRegions_9 ks_150 rfl ?_
      refine j_icmp_ge (tgt := 52) (pc' := 15) cx dX5_countRegions_12 (by decide) rfl (fun ch_7 => ?_) (fun ch_7 => ?_)
      · have h_9 := it_t h_7 ch_7
        have h_10 := so_i h_9
        subst h_10
        have h_11 := so_i (se_r h_8)
        subst h_11
        refine j_lv (lv' := [(2, .int s3.1)]) cx [2] rfl ?_
        exact KXe4
      · have h_12 := it_f h_7 ch_7
        refine j_aload_n (pc' := 16) cx 0 dX5_countRegions_15 rfl rfl ?_
        refine j_get (C := RX5) (T := TX5) (N := 4) (pc' := 19) cx uB_X5 2 rfl rfl 1 (by decide) wF_X5_18 (.ref hSVr) rfl dX5_countRegions_16 rfl ?_
        refine j_iload_n (pc' := 20) cx 3 dX5_countRegions_19 rfl rfl ?_
        obtain ⟨i5, h_13⟩ := ck_s h_12
        refine j_zald (pc' := 21) cx 3 1 rfl rfl i5 dX5_countRegions_20 rfl ?_
        obtain ⟨t10, h_15, h_14⟩ := bd_s h_13
        have Kt10 : j 0 0 [(hCA, .inr (0, [.ref hNW, .ref hCAo, .ref hCAp])), (hCAo, .inl (cI, 150, .inl CAow)), (hSV, .inr (4, [.ref hCA, .ref hSVr, .ref hSVq, .ref hSVm])), (hSVr, .inl (cZ, 150, .inl t10.2.1)), (hSVq, .inl (cI, 150, .inl t10.2.2))] [(0, .ref hSV), (1, .int p0), (2, .int t10.1), (3, .int s3.2.1)] 46 [] := by
          refine j_iinc (v := (s3.2.1 + 1)) (lv' := [(3, .int (s3.2.1 + 1)), (0, .ref hSV), (1, .int p0), (2, .int t10.1)]) (pc' := 49) cx 3 dX5_countRegions_46 rfl (kn_1 _) (by decide) rfl rfl ?_
          refine j_goto (pc' := 8) cx dX5_countRegions_49 (by decide) ?_
          have h_16 := so_i h_14
          subst h_16
          refine j_lv (lv' := [(0, .ref hSV), (1, .int p0), (2, .int t10.1), (3, .int (s3.2.1 + 1))]) cx [1, 2, 3, 0] rfl ?_
          exact ihe4 _ (se_l h_8)
        refine j_if_ne (tgt := 46) (pc' := 24) cx dX5_countRegions_21 (by decide) rfl (fun ch_15 => ?_) (fun ch_15 => ?_)
        · have h_17 := it_f h_15 ch_15
          have h_18 := so_i h_17
          subst h_18
          exact Kt10
        · have h_19 := it_t h_15 ch_15
          refine j_aload_n (pc' := 25) cx 0 dX5_countRegions_24 rfl rfl ?_
          refine j_get (C := RX5) (T := TX5) (N := 4) (pc' := 28) cx uB_X5 2 rfl rfl 0 (by decide) wF_X5_12 (.ref hCA) rfl dX5_countRegions_25 rfl ?_
          refine j_iload_n (pc' := 29) cx 3 dX5_countRegions_28 rfl rfl ?_
          obtain ⟨r6, c7, h_20⟩ := bd_s h_19
          refine j_cV (pc' := 32) cx (c_X1_isFree l D cI cZ cC cS hNW hCA hCAo hCAp CAow s3.2.1 r6 c7) 1 yk_X1_isFree wM_X5_35 ⟨wN_X1_isFree, wS_X1_isFree, wI_X1, wC_X1_isFree⟩ ⟨rfl, rfl, Nat.le_of_ble_eq_true rfl, Nat.le_of_ble_eq_true rfl, Nat.le_of_ble_eq_true rfl, Nat.le_of_ble_eq_true rfl⟩ [0, 1] [2, 3, 4] [3, 4, 0, 1, 2] rfl [(hSV, .inr (4, [.ref hCA, .ref hSVr, .ref hSVq, .ref hSVm])), (hSVr, .inl (cZ, 150, .inl s3.2.2.1)), (hSVq, .inl (cI, 150, .inl s3.2.2.2))] rfl (by decide) [(hCA, .inr (0, [.ref hNW, .ref hCAo, .ref hCAp])), (hCAo, .inl (cI, 150, .inl CAow)), (hSV, .inr (4, [.ref hCA, .ref hSVr, .ref hSVq, .ref hSVm])), (hSVr, .inl (cZ, 150, .inl s3.2.2.1)), (hSVq, .inl (cI, 150, .inl s3.2.2.2))] rfl (by decide) 0 0 rfl rfl rfl rfl rfl (Nat.le_of_ble_eq_true rfl) dX5_countRegions_29 rfl ?_
          refine j_iload_n (pc' := 33) cx 1 dX5_countRegions_32 rfl rfl ?_
          refine j_icmp_ne (tgt := 46) (pc' := 36) cx dX5_countRegions_33 (by decide) rfl (fun ch_20 => ?_) (fun ch_20 => ?_)
          · have h_21 := it_f h_20 ch_20
            have h_22 := so_i h_21
            subst h_22
            exact Kt10
          · have h_23 := it_t h_20 ch_20
            refine j_aload_n (pc' := 37) cx 0 dX5_countRegions_36 rfl rfl ?_
            refine j_iload_n (pc' := 38) cx 3 dX5_countRegions_37 rfl rfl ?_
            refine j_iload_n (pc' := 39) cx 1 dX5_countRegions_38 rfl rfl ?_
            obtain ⟨r8, c9, h_24⟩ := bd_s h_23
            refine j_cV (pc' := 42) cx (c_X5_reachRegion l D cI cZ cC cS hNW hCA hCAo hCAp hSV hSVr hSVq hSVm CAow s3.2.2.1 s3.2.2.2 s3.2.1 p0 r8 c9) 2 yk_X5_reachRegion wM_X5_79 ⟨wN_X5_reachRegion, wS_X5_reachRegion, wI_X5, wC_X5_reachRegion⟩ ⟨rfl, rfl, Nat.le_of_ble_eq_true rfl, Nat.le_of_ble_eq_true rfl, Nat.le_of_ble_eq_true rfl, Nat.le_of_ble_eq_true rfl⟩ [0, 1, 2, 3, 4] [] [0, 1, 2, 3, 4] rfl [] rfl (by decide) [(hCA, .inr (0, [.ref hNW, .ref hCAo, .ref hCAp])), (hCAo, .inl (cI, 150, .inl CAow)), (hSV, .inr (4, [.ref hCA, .ref hSVr, .ref hSVq, .ref hSVm])), (hSVr, .inl (cZ, 150, .inl r8.2.1)), (hSVq, .inl (cI, 150, .inl r8.2.2))] rfl (by decide) 2 4 rfl rfl rfl rfl rfl (Nat.le_of_ble_eq_true rfl) dX5_countRegions_39 rfl ?_
            refine j_pop (pc' := 43) cx dX5_countRegions_42 rfl rfl ?_
            refine j_iinc (v := (s3.1 + 1)) (lv' := [(2, .int (s3.1 + 1)), (0, .ref hSV), (1, .int p0), (3, .int s3.2.1)]) (pc' := 46) cx 2 dX5_countRegions_43 rfl (kn_1 _) (by decide) rfl rfl ?_
            have h_25 := so_i h_24
            subst h_25
            refine j_lv (lv' := [(0, .ref hSV), (1, .int p0), (2, .int (s3.1 + 1)), (3, .int s3.2.1)]) cx [1, 2, 0, 3] rfl ?_
            exact Kt10
  refine j_lv (lv' := [(0, .ref hSV), (1, .int p0), (2, .int 0), (3, .int 0)]) cx [2, 3, 1, 0] rfl ?_
  exact LPe4 _ _ h_2
set_option maxHeartbeats 4000000 in
set_option maxRecDepth 100000 in
theorem c_X5_greatestFreeRegion (l : Launch) (D : va_G) (cI cZ cC cS : ClassId) (hNW hCA hCAo hCAp hSV hSVr hSVq hSVm : Nat) (CAow : Nat → Int32) (SVre : Nat → Int32) (SVqu : Nat → Int32) (out : Int32 × (Nat → Int32) × (Nat → Int32)) (hm : f_X5_greatestFreeRegion CAow SVre SVqu = some out) : Ct l yX5_greatestFreeRegion cX5_greatestFreeRegion 3 (some .int) ({ frames := 3, cells := 0, slots := 0, locals := 71 }) (D, TY cI cZ cC cS) [.ref hSV] [(hCA, .inr (0, [.ref hNW, .ref hCAo, .ref hCAp])), (hCAo, .inl (cI, 150, .inl CAow)), (hSV, .inr (4, [.ref hCA, .ref hSVr, .ref hSVq, .ref hSVm])), (hSVr, .inl (cZ, 150, .inl SVre)), (hSVq, .inl (cI, 150, .inl SVqu))] (jw_P (some (.int out.1)) [(hCA, .inr (0, [.ref hNW, .ref hCAo, .ref hCAp])), (hCAo, .inl (cI, 150, .inl CAow)), (hSV, .inr (4, [.ref hCA, .ref hSVr, .ref hSVq, .ref hSVm])), (hSVr, .inl (cZ, 150, .inl out.2.1)), (hSVq, .inl (cI, 150, .inl out.2.2))]) 0 0 := by
  refine ct_of RX5 (by decide +kernel) rfl (Nat.le_of_ble_eq_true rfl) (fun j cx => ?_)
  unfold f_X5_greatestFreeRegion at hm
  show j 0 0 [(hCA, .inr (0, [.ref hNW, .ref hCAo, .ref hCAp])), (hCAo, .inl (cI, 150, .inl CAow)), (hSV, .inr (4, [.ref hCA, .ref hSVr, .ref hSVq, .ref hSVm])), (hSVr, .inl (cZ, 150, .inl SVre)), (hSVq, .inl (cI, 150, .inl SVqu))] [(0, .ref hSV)] 0 []
  refine j_aload_n (pc' := 1) cx 0 dX5_greatestFreeRegion_0 rfl rfl ?_
  obtain ⟨r1, c2, h_1⟩ := bd_s hm
  refine j_cV (pc' := 4) cx (c_X5_forgetReached l D cI cZ cC cS hCA hSV hSVr hSVq hSVm SVre r1 c2) 0 yk_X5_forgetReached wM_X5_76 ⟨wN_X5_forgetReached, wS_X5_forgetReached, wI_X5, wC_X5_forgetReached⟩ ⟨rfl, rfl, Nat.le_of_ble_eq_true rfl, Nat.le_of_ble_eq_true rfl, Nat.le_of_ble_eq_true rfl, Nat.le_of_ble_eq_true rfl⟩ [2, 3] [0, 1, 4] [0, 1, 3, 4, 2] rfl [(hCA, .inr (0, [.ref hNW, .ref hCAo, .ref hCAp])), (hCAo, .inl (cI, 150, .inl CAow)), (hSVq, .inl (cI, 150, .inl SVqu))] rfl (by decide) [(hCA, .inr (0, [.ref hNW, .ref hCAo, .ref hCAp])), (hCAo, .inl (cI, 150, .inl CAow)), (hSV, .inr (4, [.ref hCA, .ref hSVr, .ref hSVq, .ref hSVm])), (hSVr, .inl (cZ, 150, .inl r1)), (hSVq, .inl (cI, 150, .inl SVqu))] rfl (by decide) 2 4 rfl rfl rfl rfl rfl (Nat.le_of_ble_eq_true rfl) dX5_greatestFreeRegion_1 rfl ?_
  refine j_iconst (pc' := 5) cx 0 dX5_greatestFreeRegion_4 ki_0 rfl ?_
  refine j_istore_n (lv' := [(1, .int 0), (0, .ref hSV)]) (pc' := 6) cx dX5_greatestFreeRegion_5 (by decide) rfl rfl ?_
  refine j_iconst (pc' := 7) cx 0 dX5_greatestFreeRegion_6 ki_0 rfl ?_
  refine j_istore_n (lv' := [(2, .int 0), (1, .int 0), (0, .ref hSV)]) (pc' := 8) cx dX5_greatestFreeRegion_7 (by decide) rfl rfl ?_
  obtain ⟨e4, h_2, h_3⟩ := bd_s h_1
  have KXe4 : j 0 0 [(hCA, .inr (0, [.ref hNW, .ref hCAo, .ref hCAp])), (hCAo, .inl (cI, 150, .inl CAow)), (hSV, .inr (4, [.ref hCA, .ref hSVr, .ref hSVq, .ref hSVm])), (hSVr, .inl (cZ, 150, .inl e4.2.2.1)), (hSVq, .inl (cI, 150, .inl e4.2.2.2))] [(1, .int e4.1)] 52 [] := by
    refine j_iload_n (pc' := 53) cx 0 dX5_greatestFreeRegion_52 rfl rfl ?_
    have h_4 := so_i h_3
    subst h_4
    exact j_ret cx (Or.inr (Or.inl ⟨_, _, rfl, rfl, dX5_greatestFreeRegion_53, rfl, rfl⟩)) ⟨rfl, rfl⟩
  have LPe4 : ∀ (n : Nat) (s3 : Int32 × Int32 × (Nat → Int32) × (Nat → Int32)), lp (f_X5_greatestFreeRegion_b1 CAow) n s3 = some e4 → j 0 0 [(hCA, .inr (0, [.ref hNW, .ref hCAo, .ref hCAp])), (hCAo, .inl (cI, 150, .inl CAow)), (hSV, .inr (4, [.ref hCA, .ref hSVr, .ref hSVq, .ref hSVm])), (hSVr, .inl (cZ, 150, .inl s3.2.2.1)), (hSVq, .inl (cI, 150, .inl s3.2.2.2))] [(0, .ref hSV), (1, .int s3.1), (2, .int s3.2.1)] 8 [] := by
    intro n
    induction n with
    | zero => intro s3 z; exact absurd z (by intro z; cases z)
    | succ n ihe4 =>
      intro s3 h_5
      obtain ⟨q_6, h_7, h_8⟩ := bd_s h_5
      unfold f_X5_greatestFreeRegion_b1 at h_7
      refine j_iload_n (pc' := 9) cx 2 dX5_greatestFreeRegion_8 rfl rfl ?_
      refine j_sipush (pc' := 12) cx 150 dX5_greatestFreeRegion_9 ks_150 rfl ?_
      refine j_icmp_ge (tgt := 52) (pc' := 15) cx dX5_greatestFreeRegion_12 (by decide) rfl (fun ch_7 => ?_) (fun ch_7 => ?_)
      · have h_9 := it_t h_7 ch_7
        have h_10 := so_i h_9
        subst h_10
        have h_11 := so_i (se_r h_8)
        subst h_11
        refine j_lv (lv' := [(1, .int s3.1)]) cx [1] rfl ?_
        exact KXe4
      · have h_12 := it_f h_7 ch_7
        refine j_aload_n (pc' := 16) cx 0 dX5_greatestFreeRegion_15 rfl rfl ?_
        refine j_get (C := RX5) (T := TX5) (N := 4) (pc' := 19) cx uB_X5 2 rfl rfl 1 (by decide) wF_X5_18 (.ref hSVr) rfl dX5_greatestFreeRegion_16 rfl ?_
        refine j_iload_n (pc' := 20) cx 2 dX5_greatestFreeRegion_19 rfl rfl ?_
        obtain ⟨i5, h_13⟩ := ck_s h_12
        refine j_zald (pc' := 21) cx 3 1 rfl rfl i5 dX5_greatestFreeRegion_20 rfl ?_
        obtain ⟨t10, h_15, h_14⟩ := bd_s h_13
        have Kt10 : j 0 0 [(hCA, .inr (0, [.ref hNW, .ref hCAo, .ref hCAp])), (hCAo, .inl (cI, 150, .inl CAow)), (hSV, .inr (4, [.ref hCA, .ref hSVr, .ref hSVq, .ref hSVm])), (hSVr, .inl (cZ, 150, .inl t10.2.1)), (hSVq, .inl (cI, 150, .inl t10.2.2))] [(0, .ref hSV), (1, .int t10.1), (2, .int s3.2.1)] 46 [] := by
          refine j_iinc (v := (s3.2.1 + 1)) (lv' := [(2, .int (s3.2.1 + 1)), (0, .ref hSV), (1, .int t10.1)]) (pc' := 49) cx 2 dX5_greatestFreeRegion_46 rfl (kn_1 _) (by decide) rfl rfl ?_
          refine j_goto (pc' := 8) cx dX5_greatestFreeRegion_49 (by decide) ?_
          have h_16 := so_i h_14
          subst h_16
          refine j_lv (lv' := [(0, .ref hSV), (1, .int t10.1), (2, .int (s3.2.1 + 1))]) cx [1, 2, 0] rfl ?_
          exact ihe4 _ (se_l h_8)
        refine j_if_ne (tgt := 46) (pc' := 24) cx dX5_greatestFreeRegion_21 (by decide) rfl (fun ch_15 => ?_) (fun ch_15 => ?_)
        · have h_17 := it_f h_15 ch_15
          have h_18 := so_i h_17
          subst h_18
          exact Kt10
        · have h_19 := it_t h_15 ch_15
          refine j_aload_n (pc' := 25) cx 0 dX5_greatestFreeRegion_24 rfl rfl ?_
          refine j_get (C := RX5) (T := TX5) (N := 4) (pc' := 28) cx uB_X5 2 rfl rfl 0 (by decide) wF_X5_12 (.ref hCA) rfl dX5_greatestFreeRegion_25 rfl ?_
          refine j_iload_n (pc' := 29) cx 2 dX5_greatestFreeRegion_28 rfl rfl ?_
          obtain ⟨r6, c7, h_20⟩ := bd_s h_19
          refine j_cV (pc' := 32) cx (c_X1_isFree l D cI cZ cC cS hNW hCA hCAo hCAp CAow s3.2.1 r6 c7) 1 yk_X1_isFree wM_X5_35 ⟨wN_X1_isFree, wS_X1_isFree, wI_X1, wC_X1_isFree⟩ ⟨rfl, rfl, Nat.le_of_ble_eq_true rfl, Nat.le_of_ble_eq_true rfl, Nat.le_of_ble_eq_true rfl, Nat.le_of_ble_eq_true rfl⟩ [0, 1] [2, 3, 4] [3, 4, 0, 1, 2] rfl [(hSV, .inr (4, [.ref hCA, .ref hSVr, .ref hSVq, .ref hSVm])), (hSVr, .inl (cZ, 150, .inl s3.2.2.1)), (hSVq, .inl (cI, 150, .inl s3.2.2.2))] rfl (by decide) [(hCA, .inr (0, [.ref hNW, .ref hCAo, .ref hCAp])), (hCAo, .inl (cI, 150, .inl CAow)), (hSV, .inr (4, [.ref hCA, .ref hSVr, .ref hSVq, .ref hSVm])), (hSVr, .inl (cZ, 150, .inl s3.2.2.1)), (hSVq, .inl (cI, 150, .inl s3.2.2.2))] rfl (by decide) 0 0 rfl rfl rfl rfl rfl (Nat.le_of_ble_eq_true rfl) dX5_greatestFreeRegion_29 rfl ?_
          refine j_if_eq (tgt := 46) (pc' := 35) cx dX5_greatestFreeRegion_32 (by decide) rfl (fun ch_20 => ?_) (fun ch_20 => ?_)
          · have h_21 := it_t h_20 ch_20
            have h_22 := so_i h_21
            subst h_22
            exact Kt10
          · have h_23 := it_f h_20 ch_20
            refine j_iload_n (pc' := 36) cx 1 dX5_greatestFreeRegion_35 rfl rfl ?_
            refine j_aload_n (pc' := 37) cx 0 dX5_greatestFreeRegion_36 rfl rfl ?_
            refine j_iload_n (pc' := 38) cx 2 dX5_greatestFreeRegion_37 rfl rfl ?_
            refine j_iconst (pc' := 39) cx 1 dX5_greatestFreeRegion_38 ki_1 rfl ?_
            obtain ⟨r8, c9, h_24⟩ := bd_s h_23
            refine j_cV (pc' := 42) cx (c_X5_reachRegion l D cI cZ cC cS hNW hCA hCAo hCAp hSV hSVr hSVq hSVm CAow s3.2.2.1 s3.2.2.2 s3.2.1 1 r8 c9) 2 yk_X5_reachRegion wM_X5_79 ⟨wN_X5_reachRegion, wS_X5_reachRegion, wI_X5, wC_X5_reachRegion⟩ ⟨rfl, rfl, Nat.le_of_ble_eq_true rfl, Nat.le_of_ble_eq_true rfl, Nat.le_of_ble_eq_true rfl, Nat.le_of_ble_eq_true rfl⟩ [0, 1, 2, 3, 4] [] [0, 1, 2, 3, 4] rfl [] rfl (by decide) [(hCA, .inr (0, [.ref hNW, .ref hCAo, .ref hCAp])), (hCAo, .inl (cI, 150, .inl CAow)), (hSV, .inr (4, [.ref hCA, .ref hSVr, .ref hSVq, .ref hSVm])), (hSVr, .inl (cZ, 150, .inl r8.2.1)), (hSVq, .inl (cI, 150, .inl r8.2.2))] rfl (by decide) 2 4 rfl rfl rfl rfl rfl (Nat.le_of_ble_eq_true rfl) dX5_greatestFreeRegion_39 rfl ?_
            refine j_max (pc' := 45) cx wM_X5_83 ⟨Nat.le_of_ble_eq_true rfl, Nat.le_of_ble_eq_true rfl⟩ ⟨Nat.le_of_ble_eq_true rfl, Nat.le_of_ble_eq_true rfl⟩ dX5_greatestFreeRegion_42 rfl ?_
            refine j_istore_n (lv' := [(1, .int (if s3.1 < r8.1 then r8.1 else s3.1)), (0, .ref hSV), (2, .int s3.2.1)]) (pc' := 46) cx dX5_greatestFreeRegion_45 (by decide) rfl rfl ?_
            have h_25 := so_i h_24
            subst h_25
            refine j_lv (lv' := [(0, .ref hSV), (1, .int (if s3.1 < r8.1 then r8.1 else s3.1)), (2, .int s3.2.1)]) cx [1, 0, 2] rfl ?_
            exact Kt10
  refine j_lv (lv' := [(0, .ref hSV), (1, .int 0), (2, .int 0)]) cx [2, 1, 0] rfl ?_
  exact LPe4 _ _ h_2
set_option maxHeartbeats 4000000 in
set_option maxRecDepth 100000 in
theorem c_X5_countPlaces (l : Launch) (D : va_G) (cI cZ cC cS : ClassId) (hNW hNWk hNWt hNWm hNWc hCA hCAo hCAp hSV hSVr hSVq hSVm : Nat) (NWru : Int32) (NWco : Int32) (NWKa : Nat → Int32) (NWTa : Nat → Int32) (NWCa : Nat → Int32) (CAow : Nat → Int32) (CApa : Nat → Int32) (p0 : Int32) (out : Int32) (hm : f_X5_countPlaces NWru NWco NWKa NWTa NWCa CAow CApa p0 = some out) : Ct l yX5_countPlaces cX5_countPlaces 5 (some .int) ({ frames := 4, cells := 0, slots := 0, locals := 100 }) (D, TY cI cZ cC cS) [.ref hSV, .int p0] [(hNW, .inr (3, [.int NWru, .int NWco, .ref hNWk, .ref hNWt, .ref hNWm, .ref hNWc])), (hNWk, .inl (cI, 30, .inl NWKa)), (hNWt, .inl (cI, 30, .inl NWTa)), (hNWc, .inl (cI, 24, .inl NWCa)), (hCA, .inr (0, [.ref hNW, .ref hCAo, .ref hCAp])), (hCAo, .inl (cI, 150, .inl CAow)), (hCAp, .inl (cI, 150, .inl CApa)), (hSV, .inr (4, [.ref hCA, .ref hSVr, .ref hSVq, .ref hSVm]))] (jw_P (some (.int out)) [(hNW, .inr (3, [.int NWru, .int NWco, .ref hNWk, .ref hNWt, .ref hNWm, .ref hNWc])), (hNWk, .inl (cI, 30, .inl NWKa)), (hNWt, .inl (cI, 30, .inl NWTa)), (hNWc, .inl (cI, 24, .inl NWCa)), (hCA, .inr (0, [.ref hNW, .ref hCAo, .ref hCAp])), (hCAo, .inl (cI, 150, .inl CAow)), (hCAp, .inl (cI, 150, .inl CApa)), (hSV, .inr (4, [.ref hCA, .ref hSVr, .ref hSVq, .ref hSVm]))]) 0 0 := by
  refine ct_of RX5 (by decide +kernel) rfl (Nat.le_of_ble_eq_true rfl) (fun j cx => ?_)
  unfold f_X5_countPlaces at hm
  show j 0 0 [(hNW, .inr (3, [.int NWru, .int NWco, .ref hNWk, .ref hNWt, .ref hNWm, .ref hNWc])), (hNWk, .inl (cI, 30, .inl NWKa)), (hNWt, .inl (cI, 30, .inl NWTa)), (hNWc, .inl (cI, 24, .inl NWCa)), (hCA, .inr (0, [.ref hNW, .ref hCAo, .ref hCAp])), (hCAo, .inl (cI, 150, .inl CAow)), (hCAp, .inl (cI, 150, .inl CApa)), (hSV, .inr (4, [.ref hCA, .ref hSVr, .ref hSVq, .ref hSVm]))] [(0, .ref hSV), (1, .int p0)] 0 []
  refine j_iconst (pc' := 1) cx 0 dX5_countPlaces_0 ki_0 rfl ?_
  refine j_istore_n (lv' := [(2, .int 0), (0, .ref hSV), (1, .int p0)]) (pc' := 2) cx dX5_countPlaces_1 (by decide) rfl rfl ?_
  refine j_iconst (pc' := 3) cx 0 dX5_countPlaces_2 ki_0 rfl ?_
  refine j_istore_n (lv' := [(3, .int 0), (2, .int 0), (0, .ref hSV), (1, .int p0)]) (pc' := 4) cx dX5_countPlaces_3 (by decide) rfl rfl ?_
  obtain ⟨e2, h_1, h_2⟩ := bd_s hm
  have KXe2 : j 0 0 [(hNW, .inr (3, [.int NWru, .int NWco, .ref hNWk, .ref hNWt, .ref hNWm, .ref hNWc])), (hNWk, .inl (cI, 30, .inl NWKa)), (hNWt, .inl (cI, 30, .inl NWTa)), (hNWc, .inl (cI, 24, .inl NWCa)), (hCA, .inr (0, [.ref hNW, .ref hCAo, .ref hCAp])), (hCAo, .inl (cI, 150, .inl CAow)), (hCAp, .inl (cI, 150, .inl CApa)), (hSV, .inr (4, [.ref hCA, .ref hSVr, .ref hSVq, .ref hSVm]))] [(2, .int e2.1)] 50 [] := by
    refine j_iload_n (pc' := 51) cx 0 dX5_countPlaces_50 rfl rfl ?_
    have h_3 := so_i h_2
    subst h_3
    exact j_ret cx (Or.inr (Or.inl ⟨_, _, rfl, rfl, dX5_countPlaces_51, rfl, rfl⟩)) ⟨rfl, rfl⟩
  have LPe2 : ∀ (n : Nat) (s1 : Int32 × Int32), lp (f_X5_countPlaces_b2 NWru NWco NWKa NWTa NWCa CAow CApa p0) n s1 = some e2 → j 0 0 [(hNW, .inr (3, [.int NWru, .int NWco, .ref hNWk, .ref hNWt, .ref hNWm, .ref hNWc])), (hNWk, .inl (cI, 30, .inl NWKa)), (hNWt, .inl (cI, 30, .inl NWTa)), (hNWc, .inl (cI, 24, .inl NWCa)), (hCA, .inr (0, [.ref hNW, .ref hCAo, .ref hCAp])), (hCAo, .inl (cI, 150, .inl CAow)), (hCAp, .inl (cI, 150, .inl CApa)), (hSV, .inr (4, [.ref hCA, .ref hSVr, .ref hSVq, .ref hSVm]))] [(0, .ref hSV), (1, .int p0), (2, .int s1.1), (3, .int s1.2)] 4 [] := by
    intro n
    induction n with
    | zero => intro s1 z; exact absurd z (by intro z; cases z)
    | succ n ihe2 =>
      intro s1 h_4
      obtain ⟨q_5, h_6, h_7⟩ := bd_s h_4
      unfold f_X5_countPlaces_b2 at h_6
      refine j_iload_n (pc' := 5) cx 3 dX5_countPlaces_4 rfl rfl ?_
      refine j_sipush (pc' := 8) cx 150 dX5_countPlaces_5 ks_150 rfl ?_
      refine j_icmp_ge (tgt := 50) (pc' := 11) cx dX5_countPlaces_8 (by decide) rfl (fun ch_6 => ?_) (fun ch_6 => ?_)
      · have h_8 := it_t h_6 ch_6
        have h_9 := so_i h_8
        subst h_9
        have h_10 := so_i (se_r h_7)
        subst h_10
        refine j_lv (lv' := [(2, .int s1.1)]) cx [2] rfl ?_
        exact KXe2
      · have h_11 := it_f h_6 ch_6
        refine j_iconst (pc' := 12) cx 0 dX5_countPlaces_11 ki_0 rfl ?_
        refine j_istore (lv' := [(4, .int 0), (0, .ref hSV), (1, .int p0), (2, .int s1.1), (3, .int s1.2)]) (pc' := 14) cx dX5_countPlaces_12 (by decide) rfl rfl ?_
        obtain ⟨e4, h_12, h_13⟩ := bd_s h_11
        have KXe4 : j 0 0 [(hNW, .inr (3, [.int NWru, .int NWco, .ref hNWk, .ref hNWt, .ref hNWm, .ref hNWc])), (hNWk, .inl (cI, 30, .inl NWKa)), (hNWt, .inl (cI, 30, .inl NWTa)), (hNWc, .inl (cI, 24, .inl NWCa)), (hCA, .inr (0, [.ref hNW, .ref hCAo, .ref hCAp])), (hCAo, .inl (cI, 150, .inl CAow)), (hCAp, .inl (cI, 150, .inl CApa)), (hSV, .inr (4, [.ref hCA, .ref hSVr, .ref hSVq, .ref hSVm]))] [(0, .ref hSV), (1, .int p0), (2, .int e4.1), (3, .int s1.2)] 44 [] := by
          refine j_iinc (v := (s1.2 + 1)) (lv' := [(3, .int (s1.2 + 1)), (0, .ref hSV), (1, .int p0), (2, .int e4.1)]) (pc' := 47) cx 3 dX5_countPlaces_44 rfl (kn_1 _) (by decide) rfl rfl ?_
          refine j_goto (pc' := 4) cx dX5_countPlaces_47 (by decide) ?_
          have h_14 := so_i h_13
          subst h_14
          refine j_lv (lv' := [(0, .ref hSV), (1, .int p0), (2, .int e4.1), (3, .int (s1.2 + 1))]) cx [1, 2, 3, 0] rfl ?_
          exact ihe2 _ (se_l h_7)
        have LPe4 : ∀ (n : Nat) (s3 : Int32 × Int32), lp (f_X5_countPlaces_b1 NWru NWco NWKa NWTa NWCa CAow CApa p0 s1) n s3 = some e4 → j 0 0 [(hNW, .inr (3, [.int NWru, .int NWco, .ref hNWk, .ref hNWt, .ref hNWm, .ref hNWc])), (hNWk, .inl (cI, 30, .inl NWKa)), (hNWt, .inl (cI, 30, .inl NWTa)), (hNWc, .inl (cI, 24, .inl NWCa)), (hCA, .inr (0, [.ref hNW, .ref hCAo, .ref hCAp])), (hCAo, .inl (cI, 150, .inl CAow)), (hCAp, .inl (cI, 150, .inl CApa)), (hSV, .inr (4, [.ref hCA, .ref hSVr, .ref hSVq, .ref hSVm]))] [(0, .ref hSV), (1, .int p0), (2, .int s3.1), (3, .int s1.2), (4, .int s3.2)] 14 [] := by
          intro n
          induction n with
          | zero => intro s3 z; exact absurd z (by intro z; cases z)
          | succ n ihe4 =>
            intro s3 h_15
            obtain ⟨q_16, h_17, h_18⟩ := bd_s h_15
            unfold f_X5_countPlaces_b1 at h_17
            refine j_iload (pc' := 16) cx 4 dX5_countPlaces_14 rfl rfl ?_
            refine j_iconst (pc' := 17) cx 4 dX5_countPlaces_16 ki_4 rfl ?_
            refine j_icmp_ge (tgt := 44) (pc' := 20) cx dX5_countPlaces_17 (by decide) rfl (fun ch_17 => ?_) (fun ch_17 => ?_)
            · have h_19 := it_t h_17 ch_17
              have h_20 := so_i h_19
              subst h_20
              have h_21 := so_i (se_r h_18)
              subst h_21
              refine j_lv (lv' := [(0, .ref hSV), (1, .int p0), (2, .int s3.1), (3, .int s1.2)]) cx [0, 1, 2, 3] rfl ?_
              exact KXe4
            · have h_22 := it_f h_17 ch_17
              refine j_aload_n (pc' := 21) cx 0 dX5_countPlaces_20 rfl rfl ?_
              refine j_get (C := RX5) (T := TX5) (N := 4) (pc' := 24) cx uB_X5 7 rfl rfl 0 (by decide) wF_X5_12 (.ref hCA) rfl dX5_countPlaces_21 rfl ?_
              refine j_iload_n (pc' := 25) cx 1 dX5_countPlaces_24 rfl rfl ?_
              refine j_iload (pc' := 27) cx 4 dX5_countPlaces_25 rfl rfl ?_
              refine j_iload_n (pc' := 28) cx 3 dX5_countPlaces_27 rfl rfl ?_
              refine j_iconst (pc' := 29) cx (-1) dX5_countPlaces_28 ki_m1 rfl ?_
              obtain ⟨r5, c6, h_23⟩ := bd_s h_22
              refine j_cV (pc' := 32) cx (c_X1_whyNot l D cI cZ cC cS hNW hNWk hNWt hNWm hNWc hCA hCAo hCAp NWru NWco NWKa NWTa NWCa CAow CApa p0 s3.2 s1.2 (-1) r5 c6) 4 yk_X1_whyNot wM_X5_88 ⟨wN_X1_whyNot, wS_X1_whyNot, wI_X1, wC_X1_whyNot⟩ ⟨rfl, rfl, Nat.le_of_ble_eq_true rfl, Nat.le_of_ble_eq_true rfl, Nat.le_of_ble_eq_true rfl, Nat.le_of_ble_eq_true rfl⟩ [0, 1, 2, 3, 4, 5, 6] [7] [1, 2, 3, 4, 5, 6, 7, 0] rfl [(hSV, .inr (4, [.ref hCA, .ref hSVr, .ref hSVq, .ref hSVm]))] rfl (by decide) [(hNW, .inr (3, [.int NWru, .int NWco, .ref hNWk, .ref hNWt, .ref hNWm, .ref hNWc])), (hNWk, .inl (cI, 30, .inl NWKa)), (hNWt, .inl (cI, 30, .inl NWTa)), (hNWc, .inl (cI, 24, .inl NWCa)), (hCA, .inr (0, [.ref hNW, .ref hCAo, .ref hCAp])), (hCAo, .inl (cI, 150, .inl CAow)), (hCAp, .inl (cI, 150, .inl CApa)), (hSV, .inr (4, [.ref hCA, .ref hSVr, .ref hSVq, .ref hSVm]))] rfl (by decide) 4 0 rfl rfl rfl rfl rfl (Nat.le_of_ble_eq_true rfl) dX5_countPlaces_29 rfl ?_
              obtain ⟨t7, h_25, h_24⟩ := bd_s h_23
              have Kt7 : j 0 0 [(hNW, .inr (3, [.int NWru, .int NWco, .ref hNWk, .ref hNWt, .ref hNWm, .ref hNWc])), (hNWk, .inl (cI, 30, .inl NWKa)), (hNWt, .inl (cI, 30, .inl NWTa)), (hNWc, .inl (cI, 24, .inl NWCa)), (hCA, .inr (0, [.ref hNW, .ref hCAo, .ref hCAp])), (hCAo, .inl (cI, 150, .inl CAow)), (hCAp, .inl (cI, 150, .inl CApa)), (hSV, .inr (4, [.ref hCA, .ref hSVr, .ref hSVq, .ref hSVm]))] [(0, .ref hSV), (1, .int p0), (2, .int t7), (3, .int s1.2), (4, .int s3.2)] 38 [] := by
                refine j_iinc (v := (s3.2 + 1)) (lv' := [(4, .int (s3.2 + 1)), (0, .ref hSV), (1, .int p0), (2, .int t7), (3, .int s1.2)]) (pc' := 41) cx 4 dX5_countPlaces_38 rfl (kn_1 _) (by decide) rfl rfl ?_
                refine j_goto (pc' := 14) cx dX5_countPlaces_41 (by decide) ?_
                have h_26 := so_i h_24
                subst h_26
                refine j_lv (lv' := [(0, .ref hSV), (1, .int p0), (2, .int t7), (3, .int s1.2), (4, .int (s3.2 + 1))]) cx [1, 2, 3, 4, 0] rfl ?_
                exact ihe4 _ (se_l h_18)
              refine j_if_ne (tgt := 38) (pc' := 35) cx dX5_countPlaces_32 (by decide) rfl (fun ch_25 => ?_) (fun ch_25 => ?_)
              · have h_27 := it_f h_25 ch_25
                have h_28 := so_i h_27
                subst h_28
                exact Kt7
              · have h_29 := it_t h_25 ch_25
                refine j_iinc (v := (s3.1 + 1)) (lv' := [(2, .int (s3.1 + 1)), (0, .ref hSV), (1, .int p0), (3, .int s1.2), (4, .int s3.2)]) (pc' := 38) cx 2 dX5_countPlaces_35 rfl (kn_1 _) (by decide) rfl rfl ?_
                have h_30 := so_i h_29
                subst h_30
                refine j_lv (lv' := [(0, .ref hSV), (1, .int p0), (2, .int (s3.1 + 1)), (3, .int s1.2), (4, .int s3.2)]) cx [1, 2, 0, 3, 4] rfl ?_
                exact Kt7
        refine j_lv (lv' := [(0, .ref hSV), (1, .int p0), (2, .int s1.1), (3, .int s1.2), (4, .int 0)]) cx [1, 2, 3, 4, 0] rfl ?_
        exact LPe4 _ _ h_12
  refine j_lv (lv' := [(0, .ref hSV), (1, .int p0), (2, .int 0), (3, .int 0)]) cx [2, 3, 1, 0] rfl ?_
  exact LPe2 _ _ h_1
set_option maxHeartbeats 4000000 in
set_option maxRecDepth 100000 in
theorem c_X5_placeOfMostTouches (l : Launch) (D : va_G) (cI cZ cC cS : ClassId) (hNW hNWk hNWt hNWm hNWc hCA hCAo hCAp hSV hSVr hSVq hSVm : Nat) (NWru : Int32) (NWco : Int32) (NWKa : Nat → Int32) (NWTa : Nat → Int32) (NWCa : Nat → Int32) (CAow : Nat → Int32) (CApa : Nat → Int32) (p0 : Int32) (out : Int32) (hm : f_X5_placeOfMostTouches NWru NWco NWKa NWTa NWCa CAow CApa p0 = some out) : Ct l yX5_placeOfMostTouches cX5_placeOfMostTouches 7 (some .int) ({ frames := 4, cells := 0, slots := 0, locals := 100 }) (D, TY cI cZ cC cS) [.ref hSV, .int p0] [(hNW, .inr (3, [.int NWru, .int NWco, .ref hNWk, .ref hNWt, .ref hNWm, .ref hNWc])), (hNWk, .inl (cI, 30, .inl NWKa)), (hNWt, .inl (cI, 30, .inl NWTa)), (hNWc, .inl (cI, 24, .inl NWCa)), (hCA, .inr (0, [.ref hNW, .ref hCAo, .ref hCAp])), (hCAo, .inl (cI, 150, .inl CAow)), (hCAp, .inl (cI, 150, .inl CApa)), (hSV, .inr (4, [.ref hCA, .ref hSVr, .ref hSVq, .ref hSVm]))] (jw_P (some (.int out)) [(hNW, .inr (3, [.int NWru, .int NWco, .ref hNWk, .ref hNWt, .ref hNWm, .ref hNWc])), (hNWk, .inl (cI, 30, .inl NWKa)), (hNWt, .inl (cI, 30, .inl NWTa)), (hNWc, .inl (cI, 24, .inl NWCa)), (hCA, .inr (0, [.ref hNW, .ref hCAo, .ref hCAp])), (hCAo, .inl (cI, 150, .inl CAow)), (hCAp, .inl (cI, 150, .inl CApa)), (hSV, .inr (4, [.ref hCA, .ref hSVr, .ref hSVq, .ref hSVm]))]) 0 0 := by
  refine ct_of RX5 (by decide +kernel) rfl (Nat.le_of_ble_eq_true rfl) (fun j cx => ?_)
  unfold f_X5_placeOfMostTouches at hm
  show j 0 0 [(hNW, .inr (3, [.int NWru, .int NWco, .ref hNWk, .ref hNWt, .ref hNWm, .ref hNWc])), (hNWk, .inl (cI, 30, .inl NWKa)), (hNWt, .inl (cI, 30, .inl NWTa)), (hNWc, .inl (cI, 24, .inl NWCa)), (hCA, .inr (0, [.ref hNW, .ref hCAo, .ref hCAp])), (hCAo, .inl (cI, 150, .inl CAow)), (hCAp, .inl (cI, 150, .inl CApa)), (hSV, .inr (4, [.ref hCA, .ref hSVr, .ref hSVq, .ref hSVm]))] [(0, .ref hSV), (1, .int p0)] 0 []
  refine j_bipush (pc' := 2) cx (-5) dX5_placeOfMostTouches_0 kb_m5 rfl ?_
  refine j_istore_n (lv' := [(2, .int (-5)), (0, .ref hSV), (1, .int p0)]) (pc' := 3) cx dX5_placeOfMostTouches_2 (by decide) rfl rfl ?_
  refine j_iconst (pc' := 4) cx (-1) dX5_placeOfMostTouches_3 ki_m1 rfl ?_
  refine j_istore_n (lv' := [(3, .int (-1)), (2, .int (-5)), (0, .ref hSV), (1, .int p0)]) (pc' := 5) cx dX5_placeOfMostTouches_4 (by decide) rfl rfl ?_
  refine j_iconst (pc' := 6) cx 0 dX5_placeOfMostTouches_5 ki_0 rfl ?_
  refine j_istore (lv' := [(4, .int 0), (3, .int (-1)), (2, .int (-5)), (0, .ref hSV), (1, .int p0)]) (pc' := 8) cx dX5_placeOfMostTouches_6 (by decide) rfl rfl ?_
  obtain ⟨e2, h_1, h_2⟩ := bd_s hm
  have KXe2 : j 0 0 [(hNW, .inr (3, [.int NWru, .int NWco, .ref hNWk, .ref hNWt, .ref hNWm, .ref hNWc])), (hNWk, .inl (cI, 30, .inl NWKa)), (hNWt, .inl (cI, 30, .inl NWTa)), (hNWc, .inl (cI, 24, .inl NWCa)), (hCA, .inr (0, [.ref hNW, .ref hCAo, .ref hCAp])), (hCAo, .inl (cI, 150, .inl CAow)), (hCAp, .inl (cI, 150, .inl CApa)), (hSV, .inr (4, [.ref hCA, .ref hSVr, .ref hSVq, .ref hSVm]))] [(2, .int e2.1)] 67 [] := by
    refine j_iload_n (pc' := 68) cx 0 dX5_placeOfMostTouches_67 rfl rfl ?_
    have h_3 := so_i h_2
    subst h_3
    exact j_ret cx (Or.inr (Or.inl ⟨_, _, rfl, rfl, dX5_placeOfMostTouches_68, rfl, rfl⟩)) ⟨rfl, rfl⟩
  have LPe2 : ∀ (n : Nat) (s1 : Int32 × Int32 × Int32), lp (f_X5_placeOfMostTouches_b1 NWru NWco NWKa NWTa NWCa CAow CApa p0) n s1 = some e2 → j 0 0 [(hNW, .inr (3, [.int NWru, .int NWco, .ref hNWk, .ref hNWt, .ref hNWm, .ref hNWc])), (hNWk, .inl (cI, 30, .inl NWKa)), (hNWt, .inl (cI, 30, .inl NWTa)), (hNWc, .inl (cI, 24, .inl NWCa)), (hCA, .inr (0, [.ref hNW, .ref hCAo, .ref hCAp])), (hCAo, .inl (cI, 150, .inl CAow)), (hCAp, .inl (cI, 150, .inl CApa)), (hSV, .inr (4, [.ref hCA, .ref hSVr, .ref hSVq, .ref hSVm]))] [(0, .ref hSV), (1, .int p0), (2, .int s1.1), (3, .int s1.2.1), (4, .int s1.2.2)] 8 [] := by
    intro n
    induction n with
    | zero => intro s1 z; exact absurd z (by intro z; cases z)
    | succ n ihe2 =>
      intro s1 h_4
      obtain ⟨q_5, h_6, h_7⟩ := bd_s h_4
      unfold f_X5_placeOfMostTouches_b1 at h_6
      refine j_iload (pc' := 10) cx 4 dX5_placeOfMostTouches_8 rfl rfl ?_
      refine j_sipush (pc' := 13) cx 600 dX5_placeOfMostTouches_10 ks_600 rfl ?_
      refine j_icmp_ge (tgt := 67) (pc' := 16) cx dX5_placeOfMostTouches_13 (by decide) rfl (fun ch_6 => ?_) (fun ch_6 => ?_)
      · have h_8 := it_t h_6 ch_6
        have h_9 := so_i h_8
        subst h_9
        have h_10 := so_i (se_r h_7)
        subst h_10
        refine j_lv (lv' := [(2, .int s1.1)]) cx [2] rfl ?_
        exact KXe2
      · have h_11 := it_f h_6 ch_6
        refine j_iload (pc' := 18) cx 4 dX5_placeOfMostTouches_16 rfl rfl ?_
        refine j_iconst (pc' := 19) cx 4 dX5_placeOfMostTouches_18 ki_4 rfl ?_
        refine j_idiv (pc' := 20) cx dX5_placeOfMostTouches_19 kz_4 rfl ?_
        refine j_istore (lv' := [(5, .int (s1.2.2 / 4)), (0, .ref hSV), (1, .int p0), (2, .int s1.1), (3, .int s1.2.1), (4, .int s1.2.2)]) (pc' := 22) cx dX5_placeOfMostTouches_20 (by decide) rfl rfl ?_
        refine j_aload_n (pc' := 23) cx 1 dX5_placeOfMostTouches_22 rfl rfl ?_
        refine j_get (C := RX5) (T := TX5) (N := 4) (pc' := 26) cx uB_X5 7 rfl rfl 0 (by decide) wF_X5_12 (.ref hCA) rfl dX5_placeOfMostTouches_23 rfl ?_
        refine j_iload_n (pc' := 27) cx 2 dX5_placeOfMostTouches_26 rfl rfl ?_
        refine j_iload (pc' := 29) cx 5 dX5_placeOfMostTouches_27 rfl rfl ?_
        refine j_iconst (pc' := 30) cx 4 dX5_placeOfMostTouches_29 ki_4 rfl ?_
        refine j_irem (pc' := 31) cx dX5_placeOfMostTouches_30 kz_4 rfl ?_
        refine j_iload (pc' := 33) cx 0 dX5_placeOfMostTouches_31 rfl rfl ?_
        refine j_iconst (pc' := 34) cx (-1) dX5_placeOfMostTouches_33 ki_m1 rfl ?_
        obtain ⟨r3, c4, h_12⟩ := bd_s h_11
        refine j_cV (pc' := 37) cx (c_X1_whyNot l D cI cZ cC cS hNW hNWk hNWt hNWm hNWc hCA hCAo hCAp NWru NWco NWKa NWTa NWCa CAow CApa p0 (rm s1.2.2 4) (s1.2.2 / 4) (-1) r3 c4) 4 yk_X1_whyNot wM_X5_88 ⟨wN_X1_whyNot, wS_X1_whyNot, wI_X1, wC_X1_whyNot⟩ ⟨rfl, rfl, Nat.le_of_ble_eq_true rfl, Nat.le_of_ble_eq_true rfl, Nat.le_of_ble_eq_true rfl, Nat.le_of_ble_eq_true rfl⟩ [0, 1, 2, 3, 4, 5, 6] [7] [1, 2, 3, 4, 5, 6, 7, 0] rfl [(hSV, .inr (4, [.ref hCA, .ref hSVr, .ref hSVq, .ref hSVm]))] rfl (by decide) [(hNW, .inr (3, [.int NWru, .int NWco, .ref hNWk, .ref hNWt, .ref hNWm, .ref hNWc])), (hNWk, .inl (cI, 30, .inl NWKa)), (hNWt, .inl (cI, 30, .inl NWTa)), (hNWc, .inl (cI, 24, .inl NWCa)), (hCA, .inr (0, [.ref hNW, .ref hCAo, .ref hCAp])), (hCAo, .inl (cI, 150, .inl CAow)), (hCAp, .inl (cI, 150, .inl CApa)), (hSV, .inr (4, [.ref hCA, .ref hSVr, .ref hSVq, .ref hSVm]))] rfl (by decide) 4 0 rfl rfl rfl rfl rfl (Nat.le_of_ble_eq_true rfl) dX5_placeOfMostTouches_34 rfl ?_
        obtain ⟨t7, h_14, h_13⟩ := bd_s h_12
        have Kt7 : j 0 0 [(hNW, .inr (3, [.int NWru, .int NWco, .ref hNWk, .ref hNWt, .ref hNWm, .ref hNWc])), (hNWk, .inl (cI, 30, .inl NWKa)), (hNWt, .inl (cI, 30, .inl NWTa)), (hNWc, .inl (cI, 24, .inl NWCa)), (hCA, .inr (0, [.ref hNW, .ref hCAo, .ref hCAp])), (hCAo, .inl (cI, 150, .inl CAow)), (hCAp, .inl (cI, 150, .inl CApa)), (hSV, .inr (4, [.ref hCA, .ref hSVr, .ref hSVq, .ref hSVm]))] [(0, .ref hSV), (1, .int p0), (2, .int t7.1), (3, .int t7.2), (4, .int s1.2.2)] 61 [] := by
          refine j_iinc (v := (s1.2.2 + 1)) (lv' := [(4, .int (s1.2.2 + 1)), (0, .ref hSV), (1, .int p0), (2, .int t7.1), (3, .int t7.2)]) (pc' := 64) cx 4 dX5_placeOfMostTouches_61 rfl (kn_1 _) (by decide) rfl rfl ?_
          refine j_goto (pc' := 8) cx dX5_placeOfMostTouches_64 (by decide) ?_
          have h_15 := so_i h_13
          subst h_15
          refine j_lv (lv' := [(0, .ref hSV), (1, .int p0), (2, .int t7.1), (3, .int t7.2), (4, .int (s1.2.2 + 1))]) cx [1, 2, 3, 4, 0] rfl ?_
          exact ihe2 _ (se_l h_7)
        refine j_if_ne (tgt := 61) (pc' := 40) cx dX5_placeOfMostTouches_37 (by decide) rfl (fun ch_14 => ?_) (fun ch_14 => ?_)
        · have h_16 := it_f h_14 ch_14
          have h_17 := so_i h_16
          subst h_17
          refine j_lv (lv' := [(0, .ref hSV), (1, .int p0), (2, .int s1.1), (3, .int s1.2.1), (4, .int s1.2.2)]) cx [1, 2, 3, 4, 5] rfl ?_
          exact Kt7
        · have h_18 := it_t h_14 ch_14
          refine j_aload_n (pc' := 41) cx 1 dX5_placeOfMostTouches_40 rfl rfl ?_
          refine j_iload (pc' := 43) cx 0 dX5_placeOfMostTouches_41 rfl rfl ?_
          refine j_iconst (pc' := 44) cx (-1) dX5_placeOfMostTouches_43 ki_m1 rfl ?_
          obtain ⟨r5, c6, h_19⟩ := bd_s h_18
          refine j_cV (pc' := 47) cx (c_X5_touchesAt l D cI cZ cC cS hNW hCA hCAo hCAp hSV hSVr hSVq hSVm CAow CApa (s1.2.2 / 4) (-1) r5 c6) 2 yk_X5_touchesAt wM_X5_70 ⟨wN_X5_touchesAt, wS_X5_touchesAt, wI_X5, wC_X5_touchesAt⟩ ⟨rfl, rfl, Nat.le_of_ble_eq_true rfl, Nat.le_of_ble_eq_true rfl, Nat.le_of_ble_eq_true rfl, Nat.le_of_ble_eq_true rfl⟩ [4, 5, 6, 7] [0, 1, 2, 3] [0, 1, 2, 3, 4, 5, 6, 7] rfl [(hNW, .inr (3, [.int NWru, .int NWco, .ref hNWk, .ref hNWt, .ref hNWm, .ref hNWc])), (hNWk, .inl (cI, 30, .inl NWKa)), (hNWt, .inl (cI, 30, .inl NWTa)), (hNWc, .inl (cI, 24, .inl NWCa))] rfl (by decide) [(hNW, .inr (3, [.int NWru, .int NWco, .ref hNWk, .ref hNWt, .ref hNWm, .ref hNWc])), (hNWk, .inl (cI, 30, .inl NWKa)), (hNWt, .inl (cI, 30, .inl NWTa)), (hNWc, .inl (cI, 24, .inl NWCa)), (hCA, .inr (0, [.ref hNW, .ref hCAo, .ref hCAp])), (hCAo, .inl (cI, 150, .inl CAow)), (hCAp, .inl (cI, 150, .inl CApa)), (hSV, .inr (4, [.ref hCA, .ref hSVr, .ref hSVq, .ref hSVm]))] rfl (by decide) 7 4 rfl rfl rfl rfl rfl (Nat.le_of_ble_eq_true rfl) dX5_placeOfMostTouches_44 rfl ?_
          refine j_istore (lv' := [(6, .int r5), (5, .int (s1.2.2 / 4)), (0, .ref hSV), (1, .int p0), (2, .int s1.1), (3, .int s1.2.1), (4, .int s1.2.2)]) (pc' := 49) cx dX5_placeOfMostTouches_47 (by decide) rfl rfl ?_
          refine j_iload (pc' := 51) cx 0 dX5_placeOfMostTouches_49 rfl rfl ?_
          refine j_iload_n (pc' := 52) cx 5 dX5_placeOfMostTouches_51 rfl rfl ?_
          refine j_icmp_le (tgt := 61) (pc' := 55) cx dX5_placeOfMostTouches_52 (by decide) rfl (fun ch_19 => ?_) (fun ch_19 => ?_)
          · have h_20 := it_t h_19 ch_19
            have h_21 := so_i h_20
            subst h_21
            refine j_lv (lv' := [(0, .ref hSV), (1, .int p0), (2, .int s1.1), (3, .int s1.2.1), (4, .int s1.2.2)]) cx [2, 3, 4, 5, 6] rfl ?_
            exact Kt7
          · have h_22 := it_f h_19 ch_19
            refine j_iload (pc' := 57) cx 0 dX5_placeOfMostTouches_55 rfl rfl ?_
            refine j_istore_n (lv' := [(3, .int r5), (6, .int r5), (5, .int (s1.2.2 / 4)), (0, .ref hSV), (1, .int p0), (2, .int s1.1), (4, .int s1.2.2)]) (pc' := 58) cx dX5_placeOfMostTouches_57 (by decide) rfl rfl ?_
            refine j_iload (pc' := 60) cx 6 dX5_placeOfMostTouches_58 rfl rfl ?_
            refine j_istore_n (lv' := [(2, .int s1.2.2), (3, .int r5), (6, .int r5), (5, .int (s1.2.2 / 4)), (0, .ref hSV), (1, .int p0), (4, .int s1.2.2)]) (pc' := 61) cx dX5_placeOfMostTouches_60 (by decide) rfl rfl ?_
            have h_23 := so_i h_22
            subst h_23
            refine j_lv (lv' := [(0, .ref hSV), (1, .int p0), (2, .int s1.2.2), (3, .int r5), (4, .int s1.2.2)]) cx [4, 5, 0, 1, 6] rfl ?_
            exact Kt7
  refine j_lv (lv' := [(0, .ref hSV), (1, .int p0), (2, .int (-5)), (3, .int (-1)), (4, .int 0)]) cx [3, 4, 2, 1, 0] rfl ?_
  exact LPe2 _ _ h_1
set_option maxHeartbeats 4000000 in
set_option maxRecDepth 100000 in
theorem c_X5_looksLike (l : Launch) (D : va_G) (cI cZ cC cS : ClassId) (hNW hNWk hNWt hNWm hNWc hCA hCAo hCAp hSV hSVr hSVq hSVm : Nat) (NWru : Int32) (NWco : Int32) (NWKa : Nat → Int32) (NWTa : Nat → Int32) (NWCa : Nat → Int32) (p0 : Int32) (p1 : Int32) (p2 : Int32) (out : Int32) (hm : f_X5_looksLike NWKa NWTa NWCa p0 p1 p2 = some out) : Ct l yX5_looksLike cX5_looksLike 6 (some .boolean) ({ frames := 2, cells := 0, slots := 0, locals := 46 }) (D, TY cI cZ cC cS) [.ref hSV, .int p0, .int p1, .int p2] [(hNW, .inr (3, [.int NWru, .int NWco, .ref hNWk, .ref hNWt, .ref hNWm, .ref hNWc])), (hNWk, .inl (cI, 30, .inl NWKa)), (hNWt, .inl (cI, 30, .inl NWTa)), (hNWc, .inl (cI, 24, .inl NWCa)), (hCA, .inr (0, [.ref hNW, .ref hCAo, .ref hCAp])), (hSV, .inr (4, [.ref hCA, .ref hSVr, .ref hSVq, .ref hSVm]))] (jw_P (some (.int out)) [(hNW, .inr (3, [.int NWru, .int NWco, .ref hNWk, .ref hNWt, .ref hNWm, .ref hNWc])), (hNWk, .inl (cI, 30, .inl NWKa)), (hNWt, .inl (cI, 30, .inl NWTa)), (hNWc, .inl (cI, 24, .inl NWCa)), (hCA, .inr (0, [.ref hNW, .ref hCAo, .ref hCAp])), (hSV, .inr (4, [.ref hCA, .ref hSVr, .ref hSVq, .ref hSVm]))]) 0 0 := by
  refine ct_of RX5 (by decide +kernel) rfl (Nat.le_of_ble_eq_true rfl) (fun j cx => ?_)
  unfold f_X5_looksLike at hm
  show j 0 0 [(hNW, .inr (3, [.int NWru, .int NWco, .ref hNWk, .ref hNWt, .ref hNWm, .ref hNWc])), (hNWk, .inl (cI, 30, .inl NWKa)), (hNWt, .inl (cI, 30, .inl NWTa)), (hNWc, .inl (cI, 24, .inl NWCa)), (hCA, .inr (0, [.ref hNW, .ref hCAo, .ref hCAp])), (hSV, .inr (4, [.ref hCA, .ref hSVr, .ref hSVq, .ref hSVm]))] [(0, .ref hSV), (1, .int p0), (2, .int p1), (3, .int p2)] 0 []
  refine j_iconst (pc' := 1) cx 0 dX5_looksLike_0 ki_0 rfl ?_
  refine j_istore (lv' := [(4, .int 0), (0, .ref hSV), (1, .int p0), (2, .int p1), (3, .int p2)]) (pc' := 3) cx dX5_looksLike_1 (by decide) rfl rfl ?_
  obtain ⟨e2, h_1, h_2⟩ := bd_s hm
  have KXe2 : ∀ e2x, e2 = .inl e2x → j 0 0 [(hNW, .inr (3, [.int NWru, .int NWco, .ref hNWk, .ref hNWt, .ref hNWm, .ref hNWc])), (hNWk, .inl (cI, 30, .inl NWKa)), (hNWt, .inl (cI, 30, .inl NWTa)), (hNWc, .inl (cI, 24, .inl NWCa)), (hCA, .inr (0, [.ref hNW, .ref hCAo, .ref hCAp])), (hSV, .inr (4, [.ref hCA, .ref hSVr, .ref hSVq, .ref hSVm]))] [] 56 [] := by
    intro e2x ze2
    subst ze2
    have h_3 := se_l h_2
    refine j_iconst (pc' := 57) cx 1 dX5_looksLike_56 ki_1 rfl ?_
    have h_4 := so_i h_3
    subst h_4
    exact j_ret cx (Or.inr (Or.inl ⟨_, _, rfl, (by decide +kernel), dX5_looksLike_57, rfl, rfl⟩)) ⟨rfl, rfl⟩
  have LPe2 : ∀ (n : Nat) (s1 : Int32), lp (f_X5_looksLike_b1 NWKa NWTa NWCa p0 p1 p2) n s1 = some e2 → j 0 0 [(hNW, .inr (3, [.int NWru, .int NWco, .ref hNWk, .ref hNWt, .ref hNWm, .ref hNWc])), (hNWk, .inl (cI, 30, .inl NWKa)), (hNWt, .inl (cI, 30, .inl NWTa)), (hNWc, .inl (cI, 24, .inl NWCa)), (hCA, .inr (0, [.ref hNW, .ref hCAo, .ref hCAp])), (hSV, .inr (4, [.ref hCA, .ref hSVr, .ref hSVq, .ref hSVm]))] [(0, .ref hSV), (1, .int p0), (2, .int p1), (3, .int p2), (4, .int s1)] 3 [] := by
    intro n
    induction n with
    | zero => intro s1 z; exact absurd z (by intro z; cases z)
    | succ n ihe2 =>
      intro s1 h_5
      obtain ⟨q_6, h_7, h_8⟩ := bd_s h_5
      unfold f_X5_looksLike_b1 at h_7
      refine j_iload (pc' := 5) cx 4 dX5_looksLike_3 rfl rfl ?_
      refine j_iconst (pc' := 6) cx 4 dX5_looksLike_5 ki_4 rfl ?_
      refine j_icmp_ge (tgt := 56) (pc' := 9) cx dX5_looksLike_6 (by decide) rfl (fun ch_7 => ?_) (fun ch_7 => ?_)
      · have h_9 := it_t h_7 ch_7
        have h_10 := so_i h_9
        subst h_10
        have h_11 := so_i (se_r h_8)
        subst h_11
        refine j_lv (lv' := []) cx [] rfl ?_
        exact KXe2 _ rfl
      · have h_12 := it_f h_7 ch_7
        refine j_iload_n (pc' := 10) cx 3 dX5_looksLike_9 rfl rfl ?_
        obtain ⟨t5, h_14, h_13⟩ := bd_s h_12
        have Kt5 : j 0 0 [(hNW, .inr (3, [.int NWru, .int NWco, .ref hNWk, .ref hNWt, .ref hNWm, .ref hNWc])), (hNWk, .inl (cI, 30, .inl NWKa)), (hNWt, .inl (cI, 30, .inl NWTa)), (hNWc, .inl (cI, 24, .inl NWCa)), (hCA, .inr (0, [.ref hNW, .ref hCAo, .ref hCAp])), (hSV, .inr (4, [.ref hCA, .ref hSVr, .ref hSVq, .ref hSVm]))] [(0, .ref hSV), (1, .int p0), (2, .int p1), (3, .int p2), (4, .int s1)] 23 [.int t5] := by
          refine j_istore (lv' := [(5, .int t5), (0, .ref hSV), (1, .int p0), (2, .int p1), (3, .int p2), (4, .int s1)]) (pc' := 25) cx dX5_looksLike_23 (by decide) rfl rfl ?_
          refine j_aload_n (pc' := 26) cx 1 dX5_looksLike_25 rfl rfl ?_
          refine j_get (C := RX5) (T := TX5) (N := 4) (pc' := 29) cx uB_X5 5 rfl rfl 0 (by decide) wF_X5_12 (.ref hCA) rfl dX5_looksLike_26 rfl ?_
          refine j_iload_n (pc' := 30) cx 2 dX5_looksLike_29 rfl rfl ?_
          refine j_iload (pc' := 32) cx 0 dX5_looksLike_30 rfl rfl ?_
          obtain ⟨r6, c7, h_15⟩ := bd_s h_13
          refine j_cV (pc' := 35) cx (c_X1_colourShown l D cI cZ cC cS hNW hNWk hNWt hNWm hNWc hCA hCAo hCAp NWru NWco NWKa NWTa NWCa p0 t5 r6 c7) 2 yk_X1_colourShown wM_X5_113 ⟨wN_X1_colourShown, wS_X1_colourShown, wI_X1, wC_X1_colourShown⟩ ⟨rfl, rfl, Nat.le_of_ble_eq_true rfl, Nat.le_of_ble_eq_true rfl, Nat.le_of_ble_eq_true rfl, Nat.le_of_ble_eq_true rfl⟩ [0, 1, 2, 3, 4] [5] [1, 2, 3, 4, 5, 0] rfl [(hSV, .inr (4, [.ref hCA, .ref hSVr, .ref hSVq, .ref hSVm]))] rfl (by decide) [(hNW, .inr (3, [.int NWru, .int NWco, .ref hNWk, .ref hNWt, .ref hNWm, .ref hNWc])), (hNWk, .inl (cI, 30, .inl NWKa)), (hNWt, .inl (cI, 30, .inl NWTa)), (hNWc, .inl (cI, 24, .inl NWCa)), (hCA, .inr (0, [.ref hNW, .ref hCAo, .ref hCAp])), (hSV, .inr (4, [.ref hCA, .ref hSVr, .ref hSVq, .ref hSVm]))] rfl (by decide) 4 0 rfl rfl rfl rfl rfl (Nat.le_of_ble_eq_true rfl) dX5_looksLike_32 rfl ?_
          refine j_aload_n (pc' := 36) cx 1 dX5_looksLike_35 rfl rfl ?_
          refine j_get (C := RX5) (T := TX5) (N := 4) (pc' := 39) cx uB_X5 5 rfl rfl 0 (by decide) wF_X5_12 (.ref hCA) rfl dX5_looksLike_36 rfl ?_
          refine j_iload_n (pc' := 40) cx 3 dX5_looksLike_39 rfl rfl ?_
          refine j_iload (pc' := 42) cx 5 dX5_looksLike_40 rfl rfl ?_
          obtain ⟨r8, c9, h_16⟩ := bd_s h_15
          refine j_cV (pc' := 45) cx (c_X1_colourShown l D cI cZ cC cS hNW hNWk hNWt hNWm hNWc hCA hCAo hCAp NWru NWco NWKa NWTa NWCa p1 s1 r8 c9) 2 yk_X1_colourShown wM_X5_113 ⟨wN_X1_colourShown, wS_X1_colourShown, wI_X1, wC_X1_colourShown⟩ ⟨rfl, rfl, Nat.le_of_ble_eq_true rfl, Nat.le_of_ble_eq_true rfl, Nat.le_of_ble_eq_true rfl, Nat.le_of_ble_eq_true rfl⟩ [0, 1, 2, 3, 4] [5] [1, 2, 3, 4, 5, 0] rfl [(hSV, .inr (4, [.ref hCA, .ref hSVr, .ref hSVq, .ref hSVm]))] rfl (by decide) [(hNW, .inr (3, [.int NWru, .int NWco, .ref hNWk, .ref hNWt, .ref hNWm, .ref hNWc])), (hNWk, .inl (cI, 30, .inl NWKa)), (hNWt, .inl (cI, 30, .inl NWTa)), (hNWc, .inl (cI, 24, .inl NWCa)), (hCA, .inr (0, [.ref hNW, .ref hCAo, .ref hCAp])), (hSV, .inr (4, [.ref hCA, .ref hSVr, .ref hSVq, .ref hSVm]))] rfl (by decide) 4 0 rfl rfl rfl rfl rfl (Nat.le_of_ble_eq_true rfl) dX5_looksLike_42 rfl ?_
          refine j_icmp_eq (tgt := 50) (pc' := 48) cx dX5_looksLike_45 (by decide) rfl (fun ch_16 => ?_) (fun ch_16 => ?_)
          · have h_17 := it_t h_16 ch_16
            refine j_iinc (v := (s1 + 1)) (lv' := [(4, .int (s1 + 1)), (5, .int t5), (0, .ref hSV), (1, .int p0), (2, .int p1), (3, .int p2)]) (pc' := 53) cx 5 dX5_looksLike_50 rfl (kn_1 _) (by decide) rfl rfl ?_
            refine j_goto (pc' := 3) cx dX5_looksLike_53 (by decide) ?_
            have h_18 := so_i h_17
            subst h_18
            refine j_lv (lv' := [(0, .ref hSV), (1, .int p0), (2, .int p1), (3, .int p2), (4, .int (s1 + 1))]) cx [2, 3, 4, 5, 0] rfl ?_
            exact ihe2 _ (se_l h_8)
          · have h_19 := it_f h_16 ch_16
            refine j_iconst (pc' := 49) cx 0 dX5_looksLike_48 ki_0 rfl ?_
            have h_20 := so_i h_19
            subst h_20
            have h_21 := so_i (se_r h_8)
            subst h_21
            have h_22 := se_r h_2
            have h_23 := so_i h_22
            subst h_23
            exact j_ret cx (Or.inr (Or.inl ⟨_, _, rfl, (by decide +kernel), dX5_looksLike_49, rfl, rfl⟩)) ⟨rfl, rfl⟩
        refine j_if_eq (tgt := 21) (pc' := 13) cx dX5_looksLike_10 (by decide) rfl (fun ch_14 => ?_) (fun ch_14 => ?_)
        · have h_24 := it_t h_14 ch_14
          refine j_iload (pc' := 23) cx 4 dX5_looksLike_21 rfl rfl ?_
          have h_25 := so_i h_24
          subst h_25
          exact Kt5
        · have h_26 := it_f h_14 ch_14
          refine j_iload (pc' := 15) cx 4 dX5_looksLike_13 rfl rfl ?_
          obtain ⟨r3, c4, h_27⟩ := bd_s h_26
          refine j_cS (pc' := 18) cx (c_X0_opposite l D cI cZ cC cS s1 r3 c4) 1 yk_X0_opposite wM_X5_110 ⟨wT_X0_opposite, wI_X0, wC_X0_opposite⟩ ⟨rfl, rfl, Nat.le_of_ble_eq_true rfl, Nat.le_of_ble_eq_true rfl, Nat.le_of_ble_eq_true rfl, Nat.le_of_ble_eq_true rfl⟩ [] [0, 1, 2, 3, 4, 5] [0, 1, 2, 3, 4, 5] rfl [(hNW, .inr (3, [.int NWru, .int NWco, .ref hNWk, .ref hNWt, .ref hNWm, .ref hNWc])), (hNWk, .inl (cI, 30, .inl NWKa)), (hNWt, .inl (cI, 30, .inl NWTa)), (hNWc, .inl (cI, 24, .inl NWCa)), (hCA, .inr (0, [.ref hNW, .ref hCAo, .ref hCAp])), (hSV, .inr (4, [.ref hCA, .ref hSVr, .ref hSVq, .ref hSVm]))] rfl (by decide) [(hNW, .inr (3, [.int NWru, .int NWco, .ref hNWk, .ref hNWt, .ref hNWm, .ref hNWc])), (hNWk, .inl (cI, 30, .inl NWKa)), (hNWt, .inl (cI, 30, .inl NWTa)), (hNWc, .inl (cI, 24, .inl NWCa)), (hCA, .inr (0, [.ref hNW, .ref hCAo, .ref hCAp])), (hSV, .inr (4, [.ref hCA, .ref hSVr, .ref hSVq, .ref hSVm]))] rfl (by decide) rfl rfl (Nat.le_of_ble_eq_true rfl) dX5_looksLike_15 rfl ?_
          refine j_goto (pc' := 23) cx dX5_looksLike_18 (by decide) ?_
          have h_28 := so_i h_27
          subst h_28
          exact Kt5
  refine j_lv (lv' := [(0, .ref hSV), (1, .int p0), (2, .int p1), (3, .int p2), (4, .int 0)]) cx [1, 2, 3, 4, 0] rfl ?_
  exact LPe2 _ _ h_1
set_option maxHeartbeats 4000000 in
set_option maxRecDepth 100000 in
theorem c_X5_comesUponItself (l : Launch) (D : va_G) (cI cZ cC cS : ClassId) (hNW hNWk hNWt hNWm hNWc hCA hCAo hCAp hSV hSVr hSVq hSVm : Nat) (NWru : Int32) (NWco : Int32) (NWKa : Nat → Int32) (NWTa : Nat → Int32) (NWMa : Nat → Int32) (NWCa : Nat → Int32) (CAow : Nat → Int32) (CApa : Nat → Int32) (p0 : Int32) (p1 : Int32) (out : Int32) (hm : f_X5_comesUponItself NWco NWKa NWTa NWMa NWCa CAow CApa p0 p1 = some out) : Ct l yX5_comesUponItself cX5_comesUponItself 7 (some .boolean) ({ frames := 3, cells := 0, slots := 0, locals := 71 }) (D, TY cI cZ cC cS) [.ref hSV, .int p0, .int p1] [(hNW, .inr (3, [.int NWru, .int NWco, .ref hNWk, .ref hNWt, .ref hNWm, .ref hNWc])), (hNWk, .inl (cI, 30, .inl NWKa)), (hNWt, .inl (cI, 30, .inl NWTa)), (hNWm, .inl (cI, 30, .inl NWMa)), (hNWc, .inl (cI, 24, .inl NWCa)), (hCA, .inr (0, [.ref hNW, .ref hCAo, .ref hCAp])), (hCAo, .inl (cI, 150, .inl CAow)), (hCAp, .inl (cI, 150, .inl CApa)), (hSV, .inr (4, [.ref hCA, .ref hSVr, .ref hSVq, .ref hSVm]))] (jw_P (some (.int out)) [(hNW, .inr (3, [.int NWru, .int NWco, .ref hNWk, .ref hNWt, .ref hNWm, .ref hNWc])), (hNWk, .inl (cI, 30, .inl NWKa)), (hNWt, .inl (cI, 30, .inl NWTa)), (hNWm, .inl (cI, 30, .inl NWMa)), (hNWc, .inl (cI, 24, .inl NWCa)), (hCA, .inr (0, [.ref hNW, .ref hCAo, .ref hCAp])), (hCAo, .inl (cI, 150, .inl CAow)), (hCAp, .inl (cI, 150, .inl CApa)), (hSV, .inr (4, [.ref hCA, .ref hSVr, .ref hSVq, .ref hSVm]))]) 0 0 := by
  refine ct_of RX5 (by decide +kernel) rfl (Nat.le_of_ble_eq_true rfl) (fun j cx => ?_)
  unfold f_X5_comesUponItself at hm
  show j 0 0 [(hNW, .inr (3, [.int NWru, .int NWco, .ref hNWk, .ref hNWt, .ref hNWm, .ref hNWc])), (hNWk, .inl (cI, 30, .inl NWKa)), (hNWt, .inl (cI, 30, .inl NWTa)), (hNWm, .inl (cI, 30, .inl NWMa)), (hNWc, .inl (cI, 24, .inl NWCa)), (hCA, .inr (0, [.ref hNW, .ref hCAo, .ref hCAp])), (hCAo, .inl (cI, 150, .inl CAow)), (hCAp, .inl (cI, 150, .inl CApa)), (hSV, .inr (4, [.ref hCA, .ref hSVr, .ref hSVq, .ref hSVm]))] [(0, .ref hSV), (1, .int p0), (2, .int p1)] 0 []
  refine j_iconst (pc' := 1) cx 0 dX5_comesUponItself_0 ki_0 rfl ?_
  refine j_istore_n (lv' := [(3, .int 0), (0, .ref hSV), (1, .int p0), (2, .int p1)]) (pc' := 2) cx dX5_comesUponItself_1 (by decide) rfl rfl ?_
  obtain ⟨e2, h_1, h_2⟩ := bd_s hm
  have KXe2 : ∀ e2x, e2 = .inl e2x → j 0 0 [(hNW, .inr (3, [.int NWru, .int NWco, .ref hNWk, .ref hNWt, .ref hNWm, .ref hNWc])), (hNWk, .inl (cI, 30, .inl NWKa)), (hNWt, .inl (cI, 30, .inl NWTa)), (hNWm, .inl (cI, 30, .inl NWMa)), (hNWc, .inl (cI, 24, .inl NWCa)), (hCA, .inr (0, [.ref hNW, .ref hCAo, .ref hCAp])), (hCAo, .inl (cI, 150, .inl CAow)), (hCAp, .inl (cI, 150, .inl CApa)), (hSV, .inr (4, [.ref hCA, .ref hSVr, .ref hSVq, .ref hSVm]))] [] 112 [] := by
    intro e2x ze2
    subst ze2
    have h_3 := se_l h_2
    refine j_iconst (pc' := 113) cx 1 dX5_comesUponItself_112 ki_1 rfl ?_
    have h_4 := so_i h_3
    subst h_4
    exact j_ret cx (Or.inr (Or.inl ⟨_, _, rfl, (by decide +kernel), dX5_comesUponItself_113, rfl, rfl⟩)) ⟨rfl, rfl⟩
  have LPe2 : ∀ (n : Nat) (s1 : Int32), lp (f_X5_comesUponItself_b1 NWco NWKa NWTa NWMa NWCa CAow CApa p0 p1) n s1 = some e2 → j 0 0 [(hNW, .inr (3, [.int NWru, .int NWco, .ref hNWk, .ref hNWt, .ref hNWm, .ref hNWc])), (hNWk, .inl (cI, 30, .inl NWKa)), (hNWt, .inl (cI, 30, .inl NWTa)), (hNWm, .inl (cI, 30, .inl NWMa)), (hNWc, .inl (cI, 24, .inl NWCa)), (hCA, .inr (0, [.ref hNW, .ref hCAo, .ref hCAp])), (hCAo, .inl (cI, 150, .inl CAow)), (hCAp, .inl (cI, 150, .inl CApa)), (hSV, .inr (4, [.ref hCA, .ref hSVr, .ref hSVq, .ref hSVm]))] [(0, .ref hSV), (1, .int p0), (2, .int p1), (3, .int s1)] 2 [] := by
    intro n
    induction n with
    | zero => intro s1 z; exact absurd z (by intro z; cases z)
    | succ n ihe2 =>
      intro s1 h_5
      obtain ⟨q_6, h_7, h_8⟩ := bd_s h_5
      unfold f_X5_comesUponItself_b1 at h_7
      refine j_iload_n (pc' := 3) cx 3 dX5_comesUponItself_2 rfl rfl ?_
      refine j_aload_n (pc' := 4) cx 0 dX5_comesUponItself_3 rfl rfl ?_
      refine j_get (C := RX5) (T := TX5) (N := 4) (pc' := 7) cx uB_X5 8 rfl rfl 0 (by decide) wF_X5_12 (.ref hCA) rfl dX5_comesUponItself_4 rfl ?_
      refine j_get (C := RX1) (T := TX1) (N := 3) (pc' := 10) cx uB_X1 5 rfl rfl 0 (by decide) wF_X5_42 (.ref hNW) rfl dX5_comesUponItself_7 rfl ?_
      refine j_get (C := RX4) (T := TX4) (N := 6) (pc' := 13) cx uB_X4 0 rfl rfl 1 (by decide) wF_X5_66 (.int NWco) rfl dX5_comesUponItself_10 rfl ?_
      refine j_icmp_ge (tgt := 112) (pc' := 16) cx dX5_comesUponItself_13 (by decide) rfl (fun ch_7 => ?_) (fun ch_7 => ?_)
      · have h_9 := it_t h_7 ch_7
        have h_10 := so_i h_9
        subst h_10
        have h_11 := so_i (se_r h_8)
        subst h_11
        refine j_lv (lv' := []) cx [] rfl ?_
        exact KXe2 _ rfl
      · have h_12 := it_f h_7 ch_7
        refine j_aload_n (pc' := 17) cx 0 dX5_comesUponItself_16 rfl rfl ?_
        refine j_get (C := RX5) (T := TX5) (N := 4) (pc' := 20) cx uB_X5 8 rfl rfl 0 (by decide) wF_X5_12 (.ref hCA) rfl dX5_comesUponItself_17 rfl ?_
        refine j_get (C := RX1) (T := TX1) (N := 3) (pc' := 23) cx uB_X1 5 rfl rfl 0 (by decide) wF_X5_42 (.ref hNW) rfl dX5_comesUponItself_20 rfl ?_
        refine j_get (C := RX4) (T := TX4) (N := 6) (pc' := 26) cx uB_X4 0 rfl rfl 4 (by decide) wF_X5_46 (.ref hNWm) rfl dX5_comesUponItself_23 rfl ?_
        refine j_iload_n (pc' := 27) cx 3 dX5_comesUponItself_26 rfl rfl ?_
        obtain ⟨i3, h_13⟩ := ck_s h_12
        refine j_iald (pc' := 28) cx 3 0 rfl rfl i3 dX5_comesUponItself_27 rfl ?_
        refine j_istore (lv' := [(4, .int (NWMa s1.toNatClampNeg)), (0, .ref hSV), (1, .int p0), (2, .int p1), (3, .int s1)]) (pc' := 30) cx dX5_comesUponItself_28 (by decide) rfl rfl ?_
        refine j_iload_n (pc' := 31) cx 3 dX5_comesUponItself_30 rfl rfl ?_
        obtain ⟨t6, h_15, h_14⟩ := bd_s h_13
        have Kt6 : j 0 0 [(hNW, .inr (3, [.int NWru, .int NWco, .ref hNWk, .ref hNWt, .ref hNWm, .ref hNWc])), (hNWk, .inl (cI, 30, .inl NWKa)), (hNWt, .inl (cI, 30, .inl NWTa)), (hNWm, .inl (cI, 30, .inl NWMa)), (hNWc, .inl (cI, 24, .inl NWCa)), (hCA, .inr (0, [.ref hNW, .ref hCAo, .ref hCAp])), (hCAo, .inl (cI, 150, .inl CAow)), (hCAp, .inl (cI, 150, .inl CApa)), (hSV, .inr (4, [.ref hCA, .ref hSVr, .ref hSVq, .ref hSVm]))] [(0, .ref hSV), (1, .int p0), (2, .int p1), (3, .int s1)] 44 [.int t6] := by
          refine j_istore (lv' := [(5, .int t6), (0, .ref hSV), (1, .int p0), (2, .int p1), (3, .int s1)]) (pc' := 46) cx dX5_comesUponItself_44 (by decide) rfl rfl ?_
          refine j_iload (pc' := 48) cx 0 dX5_comesUponItself_46 rfl rfl ?_
          refine j_iload_n (pc' := 49) cx 2 dX5_comesUponItself_48 rfl rfl ?_
          refine j_bipush (pc' := 51) cx 15 dX5_comesUponItself_49 kb_15 rfl ?_
          refine j_irem (pc' := 52) cx dX5_comesUponItself_51 kz_15 rfl ?_
          refine j_iload_n (pc' := 53) cx 2 dX5_comesUponItself_52 rfl rfl ?_
          refine j_bipush (pc' := 55) cx 15 dX5_comesUponItself_53 kb_15 rfl ?_
          refine j_idiv (pc' := 56) cx dX5_comesUponItself_55 kz_15 rfl ?_
          obtain ⟨r7, c8, h_16⟩ := bd_s h_14
          refine j_cS (pc' := 59) cx (c_X0_shifted l D cI cZ cC cS t6 (rm p0 15) (p0 / 15) r7 c8) 3 yk_X0_shifted wM_X5_99 ⟨wT_X0_shifted, wI_X0, wC_X0_shifted⟩ ⟨rfl, rfl, Nat.le_of_ble_eq_true rfl, Nat.le_of_ble_eq_true rfl, Nat.le_of_ble_eq_true rfl, Nat.le_of_ble_eq_true rfl⟩ [] [0, 1, 2, 3, 4, 5, 6, 7, 8] [0, 1, 2, 3, 4, 5, 6, 7, 8] rfl [(hNW, .inr (3, [.int NWru, .int NWco, .ref hNWk, .ref hNWt, .ref hNWm, .ref hNWc])), (hNWk, .inl (cI, 30, .inl NWKa)), (hNWt, .inl (cI, 30, .inl NWTa)), (hNWm, .inl (cI, 30, .inl NWMa)), (hNWc, .inl (cI, 24, .inl NWCa)), (hCA, .inr (0, [.ref hNW, .ref hCAo, .ref hCAp])), (hCAo, .inl (cI, 150, .inl CAow)), (hCAp, .inl (cI, 150, .inl CApa)), (hSV, .inr (4, [.ref hCA, .ref hSVr, .ref hSVq, .ref hSVm]))] rfl (by decide) [(hNW, .inr (3, [.int NWru, .int NWco, .ref hNWk, .ref hNWt, .ref hNWm, .ref hNWc])), (hNWk, .inl (cI, 30, .inl NWKa)), (hNWt, .inl (cI, 30, .inl NWTa)), (hNWm, .inl (cI, 30, .inl NWMa)), (hNWc, .inl (cI, 24, .inl NWCa)), (hCA, .inr (0, [.ref hNW, .ref hCAo, .ref hCAp])), (hCAo, .inl (cI, 150, .inl CAow)), (hCAp, .inl (cI, 150, .inl CApa)), (hSV, .inr (4, [.ref hCA, .ref hSVr, .ref hSVq, .ref hSVm]))] rfl (by decide) rfl rfl (Nat.le_of_ble_eq_true rfl) dX5_comesUponItself_56 rfl ?_
          refine j_istore (lv' := [(6, .int r7), (5, .int t6), (0, .ref hSV), (1, .int p0), (2, .int p1), (3, .int s1)]) (pc' := 61) cx dX5_comesUponItself_59 (by decide) rfl rfl ?_
          refine j_aload_n (pc' := 62) cx 2 dX5_comesUponItself_61 rfl rfl ?_
          refine j_get (C := RX5) (T := TX5) (N := 4) (pc' := 65) cx uB_X5 8 rfl rfl 0 (by decide) wF_X5_12 (.ref hCA) rfl dX5_comesUponItself_62 rfl ?_
          refine j_iload (pc' := 67) cx 0 dX5_comesUponItself_65 rfl rfl ?_
          obtain ⟨r9, c10, h_17⟩ := bd_s h_16
          refine j_cV (pc' := 70) cx (c_X1_isFree l D cI cZ cC cS hNW hCA hCAo hCAp CAow r7 r9 c10) 1 yk_X1_isFree wM_X5_35 ⟨wN_X1_isFree, wS_X1_isFree, wI_X1, wC_X1_isFree⟩ ⟨rfl, rfl, Nat.le_of_ble_eq_true rfl, Nat.le_of_ble_eq_true rfl, Nat.le_of_ble_eq_true rfl, Nat.le_of_ble_eq_true rfl⟩ [5, 6] [0, 1, 2, 3, 4, 7, 8] [0, 1, 2, 3, 4, 7, 8, 5, 6] rfl [(hNW, .inr (3, [.int NWru, .int NWco, .ref hNWk, .ref hNWt, .ref hNWm, .ref hNWc])), (hNWk, .inl (cI, 30, .inl NWKa)), (hNWt, .inl (cI, 30, .inl NWTa)), (hNWm, .inl (cI, 30, .inl NWMa)), (hNWc, .inl (cI, 24, .inl NWCa)), (hCAp, .inl (cI, 150, .inl CApa)), (hSV, .inr (4, [.ref hCA, .ref hSVr, .ref hSVq, .ref hSVm]))] rfl (by decide) [(hNW, .inr (3, [.int NWru, .int NWco, .ref hNWk, .ref hNWt, .ref hNWm, .ref hNWc])), (hNWk, .inl (cI, 30, .inl NWKa)), (hNWt, .inl (cI, 30, .inl NWTa)), (hNWm, .inl (cI, 30, .inl NWMa)), (hNWc, .inl (cI, 24, .inl NWCa)), (hCA, .inr (0, [.ref hNW, .ref hCAo, .ref hCAp])), (hCAo, .inl (cI, 150, .inl CAow)), (hCAp, .inl (cI, 150, .inl CApa)), (hSV, .inr (4, [.ref hCA, .ref hSVr, .ref hSVq, .ref hSVm]))] rfl (by decide) 5 0 rfl rfl rfl rfl rfl (Nat.le_of_ble_eq_true rfl) dX5_comesUponItself_67 rfl ?_
          refine j_if_ne (tgt := 104) (pc' := 73) cx dX5_comesUponItself_70 (by decide) rfl (fun ch_17 => ?_) (fun ch_17 => ?_)
          · have h_18 := it_f h_17 ch_17
            refine j_iconst (pc' := 105) cx 0 dX5_comesUponItself_104 ki_0 rfl ?_
            have h_19 := so_i h_18
            subst h_19
            have h_20 := so_i (se_r h_8)
            subst h_20
            have h_21 := se_r h_2
            have h_22 := so_i h_21
            subst h_22
            exact j_ret cx (Or.inr (Or.inl ⟨_, _, rfl, (by decide +kernel), dX5_comesUponItself_105, rfl, rfl⟩)) ⟨rfl, rfl⟩
          · have h_23 := it_t h_17 ch_17
            refine j_aload_n (pc' := 74) cx 2 dX5_comesUponItself_73 rfl rfl ?_
            refine j_get (C := RX5) (T := TX5) (N := 4) (pc' := 77) cx uB_X5 8 rfl rfl 0 (by decide) wF_X5_12 (.ref hCA) rfl dX5_comesUponItself_74 rfl ?_
            refine j_iload (pc' := 79) cx 0 dX5_comesUponItself_77 rfl rfl ?_
            obtain ⟨r11, c12, h_24⟩ := bd_s h_23
            refine j_cV (pc' := 82) cx (c_X1_partOn l D cI cZ cC cS hNW hCA hCAo hCAp CApa r7 r11 c12) 1 yk_X1_partOn wM_X5_103 ⟨wN_X1_partOn, wS_X1_partOn, wI_X1, wC_X1_partOn⟩ ⟨rfl, rfl, Nat.le_of_ble_eq_true rfl, Nat.le_of_ble_eq_true rfl, Nat.le_of_ble_eq_true rfl, Nat.le_of_ble_eq_true rfl⟩ [5, 7] [0, 1, 2, 3, 4, 6, 8] [0, 1, 2, 3, 4, 7, 5, 8, 6] rfl [(hNW, .inr (3, [.int NWru, .int NWco, .ref hNWk, .ref hNWt, .ref hNWm, .ref hNWc])), (hNWk, .inl (cI, 30, .inl NWKa)), (hNWt, .inl (cI, 30, .inl NWTa)), (hNWm, .inl (cI, 30, .inl NWMa)), (hNWc, .inl (cI, 24, .inl NWCa)), (hCAo, .inl (cI, 150, .inl CAow)), (hSV, .inr (4, [.ref hCA, .ref hSVr, .ref hSVq, .ref hSVm]))] rfl (by decide) [(hNW, .inr (3, [.int NWru, .int NWco, .ref hNWk, .ref hNWt, .ref hNWm, .ref hNWc])), (hNWk, .inl (cI, 30, .inl NWKa)), (hNWt, .inl (cI, 30, .inl NWTa)), (hNWm, .inl (cI, 30, .inl NWMa)), (hNWc, .inl (cI, 24, .inl NWCa)), (hCA, .inr (0, [.ref hNW, .ref hCAo, .ref hCAp])), (hCAo, .inl (cI, 150, .inl CAow)), (hCAp, .inl (cI, 150, .inl CApa)), (hSV, .inr (4, [.ref hCA, .ref hSVr, .ref hSVq, .ref hSVm]))] rfl (by decide) 5 0 rfl rfl rfl rfl rfl (Nat.le_of_ble_eq_true rfl) dX5_comesUponItself_79 rfl ?_
            refine j_iconst (pc' := 83) cx 4 dX5_comesUponItself_82 ki_4 rfl ?_
            refine j_icmp_ne (tgt := 104) (pc' := 86) cx dX5_comesUponItself_83 (by decide) rfl (fun ch_24 => ?_) (fun ch_24 => ?_)
            · have h_25 := it_f h_24 ch_24
              refine j_iconst (pc' := 105) cx 0 dX5_comesUponItself_104 ki_0 rfl ?_
              have h_26 := so_i h_25
              subst h_26
              have h_27 := so_i (se_r h_8)
              subst h_27
              have h_28 := se_r h_2
              have h_29 := so_i h_28
              subst h_29
              exact j_ret cx (Or.inr (Or.inl ⟨_, _, rfl, (by decide +kernel), dX5_comesUponItself_105, rfl, rfl⟩)) ⟨rfl, rfl⟩
            · have h_30 := it_t h_24 ch_24
              refine j_aload_n (pc' := 87) cx 2 dX5_comesUponItself_86 rfl rfl ?_
              refine j_iload_n (pc' := 88) cx 5 dX5_comesUponItself_87 rfl rfl ?_
              refine j_aload_n (pc' := 89) cx 2 dX5_comesUponItself_88 rfl rfl ?_
              refine j_get (C := RX5) (T := TX5) (N := 4) (pc' := 92) cx uB_X5 8 rfl rfl 0 (by decide) wF_X5_12 (.ref hCA) rfl dX5_comesUponItself_89 rfl ?_
              refine j_iload (pc' := 94) cx 0 dX5_comesUponItself_92 rfl rfl ?_
              obtain ⟨r13, c14, h_31⟩ := bd_s h_30
              refine j_cV (pc' := 97) cx (c_X1_ownerOf l D cI cZ cC cS hNW hCA hCAo hCAp CAow r7 r13 c14) 1 yk_X1_ownerOf wM_X5_55 ⟨wN_X1_ownerOf, wS_X1_ownerOf, wI_X1, wC_X1_ownerOf⟩ ⟨rfl, rfl, Nat.le_of_ble_eq_true rfl, Nat.le_of_ble_eq_true rfl, Nat.le_of_ble_eq_true rfl, Nat.le_of_ble_eq_true rfl⟩ [5, 6] [0, 1, 2, 3, 4, 7, 8] [0, 1, 2, 3, 4, 7, 8, 5, 6] rfl [(hNW, .inr (3, [.int NWru, .int NWco, .ref hNWk, .ref hNWt, .ref hNWm, .ref hNWc])), (hNWk, .inl (cI, 30, .inl NWKa)), (hNWt, .inl (cI, 30, .inl NWTa)), (hNWm, .inl (cI, 30, .inl NWMa)), (hNWc, .inl (cI, 24, .inl NWCa)), (hCAp, .inl (cI, 150, .inl CApa)), (hSV, .inr (4, [.ref hCA, .ref hSVr, .ref hSVq, .ref hSVm]))] rfl (by decide) [(hNW, .inr (3, [.int NWru, .int NWco, .ref hNWk, .ref hNWt, .ref hNWm, .ref hNWc])), (hNWk, .inl (cI, 30, .inl NWKa)), (hNWt, .inl (cI, 30, .inl NWTa)), (hNWm, .inl (cI, 30, .inl NWMa)), (hNWc, .inl (cI, 24, .inl NWCa)), (hCA, .inr (0, [.ref hNW, .ref hCAo, .ref hCAp])), (hCAo, .inl (cI, 150, .inl CAow)), (hCAp, .inl (cI, 150, .inl CApa)), (hSV, .inr (4, [.ref hCA, .ref hSVr, .ref hSVq, .ref hSVm]))] rfl (by decide) 5 0 rfl rfl rfl rfl rfl (Nat.le_of_ble_eq_true rfl) dX5_comesUponItself_94 rfl ?_
              refine j_iload_n (pc' := 98) cx 4 dX5_comesUponItself_97 rfl rfl ?_
              obtain ⟨r15, c16, h_32⟩ := bd_s h_31
              refine j_cV (pc' := 101) cx (c_X5_looksLike l D cI cZ cC cS hNW hNWk hNWt hNWm hNWc hCA hCAo hCAp hSV hSVr hSVq hSVm NWru NWco NWKa NWTa NWCa s1 r13 p1 r15 c16) 3 yk_X5_looksLike wM_X5_106 ⟨wN_X5_looksLike, wS_X5_looksLike, wI_X5, wC_X5_looksLike⟩ ⟨rfl, rfl, Nat.le_of_ble_eq_true rfl, Nat.le_of_ble_eq_true rfl, Nat.le_of_ble_eq_true rfl, Nat.le_of_ble_eq_true rfl⟩ [0, 1, 2, 4, 5, 8] [3, 6, 7] [3, 4, 5, 0, 6, 7, 1, 2, 8] rfl [(hNWm, .inl (cI, 30, .inl NWMa)), (hCAo, .inl (cI, 150, .inl CAow)), (hCAp, .inl (cI, 150, .inl CApa))] rfl (by decide) [(hNW, .inr (3, [.int NWru, .int NWco, .ref hNWk, .ref hNWt, .ref hNWm, .ref hNWc])), (hNWk, .inl (cI, 30, .inl NWKa)), (hNWt, .inl (cI, 30, .inl NWTa)), (hNWm, .inl (cI, 30, .inl NWMa)), (hNWc, .inl (cI, 24, .inl NWCa)), (hCA, .inr (0, [.ref hNW, .ref hCAo, .ref hCAp])), (hCAo, .inl (cI, 150, .inl CAow)), (hCAp, .inl (cI, 150, .inl CApa)), (hSV, .inr (4, [.ref hCA, .ref hSVr, .ref hSVq, .ref hSVm]))] rfl (by decide) 8 4 rfl rfl rfl rfl rfl (Nat.le_of_ble_eq_true rfl) dX5_comesUponItself_98 rfl ?_
              refine j_if_ne (tgt := 106) (pc' := 104) cx dX5_comesUponItself_101 (by decide) rfl (fun ch_32 => ?_) (fun ch_32 => ?_)
              · have h_33 := it_f h_32 ch_32
                refine j_iinc (v := (s1 + 1)) (lv' := [(3, .int (s1 + 1)), (6, .int r7), (5, .int t6), (0, .ref hSV), (1, .int p0), (2, .int p1)]) (pc' := 109) cx 5 dX5_comesUponItself_106 rfl (kn_1 _) (by decide) rfl rfl ?_
                refine j_goto (pc' := 2) cx dX5_comesUponItself_109 (by decide) ?_
                have h_34 := so_i h_33
                subst h_34
                refine j_lv (lv' := [(0, .ref hSV), (1, .int p0), (2, .int p1), (3, .int (s1 + 1))]) cx [3, 4, 5, 0] rfl ?_
                exact ihe2 _ (se_l h_8)
              · have h_35 := it_t h_32 ch_32
                refine j_iconst (pc' := 105) cx 0 dX5_comesUponItself_104 ki_0 rfl ?_
                have h_36 := so_i h_35
                subst h_36
                have h_37 := so_i (se_r h_8)
                subst h_37
                have h_38 := se_r h_2
                have h_39 := so_i h_38
                subst h_39
                exact j_ret cx (Or.inr (Or.inl ⟨_, _, rfl, (by decide +kernel), dX5_comesUponItself_105, rfl, rfl⟩)) ⟨rfl, rfl⟩
        refine j_if_eq (tgt := 42) (pc' := 34) cx dX5_comesUponItself_31 (by decide) rfl (fun ch_15 => ?_) (fun ch_15 => ?_)
        · have h_40 := it_t h_15 ch_15
          refine j_iload (pc' := 44) cx 0 dX5_comesUponItself_42 rfl rfl ?_
          have h_41 := so_i h_40
          subst h_41
          refine j_lv (lv' := [(0, .ref hSV), (1, .int p0), (2, .int p1), (3, .int s1)]) cx [1, 2, 3, 4] rfl ?_
          exact Kt6
        · have h_42 := it_f h_15 ch_15
          refine j_iload (pc' := 36) cx 0 dX5_comesUponItself_34 rfl rfl ?_
          obtain ⟨r4, c5, h_43⟩ := bd_s h_42
          refine j_cS (pc' := 39) cx (c_X0_turnedByHalf l D cI cZ cC cS (NWMa s1.toNatClampNeg) r4 c5) 1 yk_X0_turnedByHalf wM_X5_96 ⟨wT_X0_turnedByHalf, wI_X0, wC_X0_turnedByHalf⟩ ⟨rfl, rfl, Nat.le_of_ble_eq_true rfl, Nat.le_of_ble_eq_true rfl, Nat.le_of_ble_eq_true rfl, Nat.le_of_ble_eq_true rfl⟩ [] [0, 1, 2, 3, 4, 5, 6, 7, 8] [0, 1, 2, 3, 4, 5, 6, 7, 8] rfl [(hNW, .inr (3, [.int NWru, .int NWco, .ref hNWk, .ref hNWt, .ref hNWm, .ref hNWc])), (hNWk, .inl (cI, 30, .inl NWKa)), (hNWt, .inl (cI, 30, .inl NWTa)), (hNWm, .inl (cI, 30, .inl NWMa)), (hNWc, .inl (cI, 24, .inl NWCa)), (hCA, .inr (0, [.ref hNW, .ref hCAo, .ref hCAp])), (hCAo, .inl (cI, 150, .inl CAow)), (hCAp, .inl (cI, 150, .inl CApa)), (hSV, .inr (4, [.ref hCA, .ref hSVr, .ref hSVq, .ref hSVm]))] rfl (by decide) [(hNW, .inr (3, [.int NWru, .int NWco, .ref hNWk, .ref hNWt, .ref hNWm, .ref hNWc])), (hNWk, .inl (cI, 30, .inl NWKa)), (hNWt, .inl (cI, 30, .inl NWTa)), (hNWm, .inl (cI, 30, .inl NWMa)), (hNWc, .inl (cI, 24, .inl NWCa)), (hCA, .inr (0, [.ref hNW, .ref hCAo, .ref hCAp])), (hCAo, .inl (cI, 150, .inl CAow)), (hCAp, .inl (cI, 150, .inl CApa)), (hSV, .inr (4, [.ref hCA, .ref hSVr, .ref hSVq, .ref hSVm]))] rfl (by decide) rfl rfl (Nat.le_of_ble_eq_true rfl) dX5_comesUponItself_36 rfl ?_
          refine j_goto (pc' := 44) cx dX5_comesUponItself_39 (by decide) ?_
          have h_44 := so_i h_43
          subst h_44
          refine j_lv (lv' := [(0, .ref hSV), (1, .int p0), (2, .int p1), (3, .int s1)]) cx [1, 2, 3, 4] rfl ?_
          exact Kt6
  refine j_lv (lv' := [(0, .ref hSV), (1, .int p0), (2, .int p1), (3, .int 0)]) cx [1, 2, 3, 0] rfl ?_
  exact LPe2 _ _ h_1
set_option maxHeartbeats 4000000 in
set_option maxRecDepth 100000 in
theorem c_X5_countShifts (l : Launch) (D : va_G) (cI cZ cC cS : ClassId) (hNW hNWk hNWt hNWm hNWc hCA hCAo hCAp hSV hSVr hSVq hSVm : Nat) (NWru : Int32) (NWco : Int32) (NWKa : Nat → Int32) (NWTa : Nat → Int32) (NWMa : Nat → Int32) (NWCa : Nat → Int32) (CAow : Nat → Int32) (CApa : Nat → Int32) (out : Int32) (hm : f_X5_countShifts NWco NWKa NWTa NWMa NWCa CAow CApa = some out) : Ct l yX5_countShifts cX5_countShifts 3 (some .int) ({ frames := 4, cells := 0, slots := 0, locals := 97 }) (D, TY cI cZ cC cS) [.ref hSV] [(hNW, .inr (3, [.int NWru, .int NWco, .ref hNWk, .ref hNWt, .ref hNWm, .ref hNWc])), (hNWk, .inl (cI, 30, .inl NWKa)), (hNWt, .inl (cI, 30, .inl NWTa)), (hNWm, .inl (cI, 30, .inl NWMa)), (hNWc, .inl (cI, 24, .inl NWCa)), (hCA, .inr (0, [.ref hNW, .ref hCAo, .ref hCAp])), (hCAo, .inl (cI, 150, .inl CAow)), (hCAp, .inl (cI, 150, .inl CApa)), (hSV, .inr (4, [.ref hCA, .ref hSVr, .ref hSVq, .ref hSVm]))] (jw_P (some (.int out)) [(hNW, .inr (3, [.int NWru, .int NWco, .ref hNWk, .ref hNWt, .ref hNWm, .ref hNWc])), (hNWk, .inl (cI, 30, .inl NWKa)), (hNWt, .inl (cI, 30, .inl NWTa)), (hNWm, .inl (cI, 30, .inl NWMa)), (hNWc, .inl (cI, 24, .inl NWCa)), (hCA, .inr (0, [.ref hNW, .ref hCAo, .ref hCAp])), (hCAo, .inl (cI, 150, .inl CAow)), (hCAp, .inl (cI, 150, .inl CApa)), (hSV, .inr (4, [.ref hCA, .ref hSVr, .ref hSVq, .ref hSVm]))]) 0 0 := by
  refine ct_of RX5 (by decide +kernel) rfl (Nat.le_of_ble_eq_true rfl) (fun j cx => ?_)
  unfold f_X5_countShifts at hm
  show j 0 0 [(hNW, .inr (3, [.int NWru, .int NWco, .ref hNWk, .ref hNWt, .ref hNWm, .ref hNWc])), (hNWk, .inl (cI, 30, .inl NWKa)), (hNWt, .inl (cI, 30, .inl NWTa)), (hNWm, .inl (cI, 30, .inl NWMa)), (hNWc, .inl (cI, 24, .inl NWCa)), (hCA, .inr (0, [.ref hNW, .ref hCAo, .ref hCAp])), (hCAo, .inl (cI, 150, .inl CAow)), (hCAp, .inl (cI, 150, .inl CApa)), (hSV, .inr (4, [.ref hCA, .ref hSVr, .ref hSVq, .ref hSVm]))] [(0, .ref hSV)] 0 []
  refine j_iconst (pc' := 1) cx 0 dX5_countShifts_0 ki_0 rfl ?_
  refine j_istore_n (lv' := [(1, .int 0), (0, .ref hSV)]) (pc' := 2) cx dX5_countShifts_1 (by decide) rfl rfl ?_
  refine j_iconst (pc' := 3) cx 0 dX5_countShifts_2 ki_0 rfl ?_
  refine j_istore_n (lv' := [(2, .int 0), (1, .int 0), (0, .ref hSV)]) (pc' := 4) cx dX5_countShifts_3 (by decide) rfl rfl ?_
  obtain ⟨e2, h_1, h_2⟩ := bd_s hm
  have KXe2 : j 0 0 [(hNW, .inr (3, [.int NWru, .int NWco, .ref hNWk, .ref hNWt, .ref hNWm, .ref hNWc])), (hNWk, .inl (cI, 30, .inl NWKa)), (hNWt, .inl (cI, 30, .inl NWTa)), (hNWm, .inl (cI, 30, .inl NWMa)), (hNWc, .inl (cI, 24, .inl NWCa)), (hCA, .inr (0, [.ref hNW, .ref hCAo, .ref hCAp])), (hCAo, .inl (cI, 150, .inl CAow)), (hCAp, .inl (cI, 150, .inl CApa)), (hSV, .inr (4, [.ref hCA, .ref hSVr, .ref hSVq, .ref hSVm]))] [(1, .int e2.1)] 29 [] := by
    refine j_iload_n (pc' := 30) cx 0 dX5_countShifts_29 rfl rfl ?_
    have h_3 := so_i h_2
    subst h_3
    exact j_ret cx (Or.inr (Or.inl ⟨_, _, rfl, rfl, dX5_countShifts_30, rfl, rfl⟩)) ⟨rfl, rfl⟩
  have LPe2 : ∀ (n : Nat) (s1 : Int32 × Int32), lp (f_X5_countShifts_b1 NWco NWKa NWTa NWMa NWCa CAow CApa) n s1 = some e2 → j 0 0 [(hNW, .inr (3, [.int NWru, .int NWco, .ref hNWk, .ref hNWt, .ref hNWm, .ref hNWc])), (hNWk, .inl (cI, 30, .inl NWKa)), (hNWt, .inl (cI, 30, .inl NWTa)), (hNWm, .inl (cI, 30, .inl NWMa)), (hNWc, .inl (cI, 24, .inl NWCa)), (hCA, .inr (0, [.ref hNW, .ref hCAo, .ref hCAp])), (hCAo, .inl (cI, 150, .inl CAow)), (hCAp, .inl (cI, 150, .inl CApa)), (hSV, .inr (4, [.ref hCA, .ref hSVr, .ref hSVq, .ref hSVm]))] [(0, .ref hSV), (1, .int s1.1), (2, .int s1.2)] 4 [] := by
    intro n
    induction n with
    | zero => intro s1 z; exact absurd z (by intro z; cases z)
    | succ n ihe2 =>
      intro s1 h_4
      obtain ⟨q_5, h_6, h_7⟩ := bd_s h_4
      unfold f_X5_countShifts_b1 at h_6
      refine j_iload_n (pc' := 5) cx 2 dX5_countShifts_4 rfl rfl ?_
      refine j_sipush (pc' := 8) cx 150 dX5_countShifts_5 ks_150 rfl ?_
      refine j_icmp_ge (tgt := 29) (pc' := 11) cx dX5_countShifts_8 (by decide) rfl (fun ch_6 => ?_) (fun ch_6 => ?_)
      · have h_8 := it_t h_6 ch_6
        have h_9 := so_i h_8
        subst h_9
        have h_10 := so_i (se_r h_7)
        subst h_10
        refine j_lv (lv' := [(1, .int s1.1)]) cx [1] rfl ?_
        exact KXe2
      · have h_11 := it_f h_6 ch_6
        refine j_aload_n (pc' := 12) cx 0 dX5_countShifts_11 rfl rfl ?_
        refine j_iload_n (pc' := 13) cx 2 dX5_countShifts_12 rfl rfl ?_
        refine j_iconst (pc' := 14) cx 0 dX5_countShifts_13 ki_0 rfl ?_
        obtain ⟨r3, c4, h_12⟩ := bd_s h_11
        refine j_cV (pc' := 17) cx (c_X5_comesUponItself l D cI cZ cC cS hNW hNWk hNWt hNWm hNWc hCA hCAo hCAp hSV hSVr hSVq hSVm NWru NWco NWKa NWTa NWMa NWCa CAow CApa s1.2 0 r3 c4) 2 yk_X5_comesUponItself wM_X5_92 ⟨wN_X5_comesUponItself, wS_X5_comesUponItself, wI_X5, wC_X5_comesUponItself⟩ ⟨rfl, rfl, Nat.le_of_ble_eq_true rfl, Nat.le_of_ble_eq_true rfl, Nat.le_of_ble_eq_true rfl, Nat.le_of_ble_eq_true rfl⟩ [0, 1, 2, 3, 4, 5, 6, 7, 8] [] [0, 1, 2, 3, 4, 5, 6, 7, 8] rfl [] rfl (by decide) [(hNW, .inr (3, [.int NWru, .int NWco, .ref hNWk, .ref hNWt, .ref hNWm, .ref hNWc])), (hNWk, .inl (cI, 30, .inl NWKa)), (hNWt, .inl (cI, 30, .inl NWTa)), (hNWm, .inl (cI, 30, .inl NWMa)), (hNWc, .inl (cI, 24, .inl NWCa)), (hCA, .inr (0, [.ref hNW, .ref hCAo, .ref hCAp])), (hCAo, .inl (cI, 150, .inl CAow)), (hCAp, .inl (cI, 150, .inl CApa)), (hSV, .inr (4, [.ref hCA, .ref hSVr, .ref hSVq, .ref hSVm]))] rfl (by decide) 8 4 rfl rfl rfl rfl rfl (Nat.le_of_ble_eq_true rfl) dX5_countShifts_14 rfl ?_
        obtain ⟨t5, h_14, h_13⟩ := bd_s h_12
        have Kt5 : j 0 0 [(hNW, .inr (3, [.int NWru, .int NWco, .ref hNWk, .ref hNWt, .ref hNWm, .ref hNWc])), (hNWk, .inl (cI, 30, .inl NWKa)), (hNWt, .inl (cI, 30, .inl NWTa)), (hNWm, .inl (cI, 30, .inl NWMa)), (hNWc, .inl (cI, 24, .inl NWCa)), (hCA, .inr (0, [.ref hNW, .ref hCAo, .ref hCAp])), (hCAo, .inl (cI, 150, .inl CAow)), (hCAp, .inl (cI, 150, .inl CApa)), (hSV, .inr (4, [.ref hCA, .ref hSVr, .ref hSVq, .ref hSVm]))] [(0, .ref hSV), (1, .int t5), (2, .int s1.2)] 23 [] := by
          refine j_iinc (v := (s1.2 + 1)) (lv' := [(2, .int (s1.2 + 1)), (0, .ref hSV), (1, .int t5)]) (pc' := 26) cx 2 dX5_countShifts_23 rfl (kn_1 _) (by decide) rfl rfl ?_
          refine j_goto (pc' := 4) cx dX5_countShifts_26 (by decide) ?_
          have h_15 := so_i h_13
          subst h_15
          refine j_lv (lv' := [(0, .ref hSV), (1, .int t5), (2, .int (s1.2 + 1))]) cx [1, 2, 0] rfl ?_
          exact ihe2 _ (se_l h_7)
        refine j_if_eq (tgt := 23) (pc' := 20) cx dX5_countShifts_17 (by decide) rfl (fun ch_14 => ?_) (fun ch_14 => ?_)
        · have h_16 := it_t h_14 ch_14
          have h_17 := so_i h_16
          subst h_17
          exact Kt5
        · have h_18 := it_f h_14 ch_14
          refine j_iinc (v := (s1.1 + 1)) (lv' := [(1, .int (s1.1 + 1)), (0, .ref hSV), (2, .int s1.2)]) (pc' := 23) cx 1 dX5_countShifts_20 rfl (kn_1 _) (by decide) rfl rfl ?_
          have h_19 := so_i h_18
          subst h_19
          refine j_lv (lv' := [(0, .ref hSV), (1, .int (s1.1 + 1)), (2, .int s1.2)]) cx [1, 0, 2] rfl ?_
          exact Kt5
  refine j_lv (lv' := [(0, .ref hSV), (1, .int 0), (2, .int 0)]) cx [2, 1, 0] rfl ?_
  exact LPe2 _ _ h_1
set_option maxHeartbeats 4000000 in
set_option maxRecDepth 100000 in
theorem c_X5_firstShift (l : Launch) (D : va_G) (cI cZ cC cS : ClassId) (hNW hNWk hNWt hNWm hNWc hCA hCAo hCAp hSV hSVr hSVq hSVm : Nat) (NWru : Int32) (NWco : Int32) (NWKa : Nat → Int32) (NWTa : Nat → Int32) (NWMa : Nat → Int32) (NWCa : Nat → Int32) (CAow : Nat → Int32) (CApa : Nat → Int32) (p0 : Int32) (p1 : Int32) (out : Int32) (hm : f_X5_firstShift NWco NWKa NWTa NWMa NWCa CAow CApa p0 p1 = some out) : Ct l yX5_firstShift cX5_firstShift 4 (some .int) ({ frames := 4, cells := 0, slots := 0, locals := 97 }) (D, TY cI cZ cC cS) [.ref hSV, .int p0, .int p1] [(hNW, .inr (3, [.int NWru, .int NWco, .ref hNWk, .ref hNWt, .ref hNWm, .ref hNWc])), (hNWk, .inl (cI, 30, .inl NWKa)), (hNWt, .inl (cI, 30, .inl NWTa)), (hNWm, .inl (cI, 30, .inl NWMa)), (hNWc, .inl (cI, 24, .inl NWCa)), (hCA, .inr (0, [.ref hNW, .ref hCAo, .ref hCAp])), (hCAo, .inl (cI, 150, .inl CAow)), (hCAp, .inl (cI, 150, .inl CApa)), (hSV, .inr (4, [.ref hCA, .ref hSVr, .ref hSVq, .ref hSVm]))] (jw_P (some (.int out)) [(hNW, .inr (3, [.int NWru, .int NWco, .ref hNWk, .ref hNWt, .ref hNWm, .ref hNWc])), (hNWk, .inl (cI, 30, .inl NWKa)), (hNWt, .inl (cI, 30, .inl NWTa)), (hNWm, .inl (cI, 30, .inl NWMa)), (hNWc, .inl (cI, 24, .inl NWCa)), (hCA, .inr (0, [.ref hNW, .ref hCAo, .ref hCAp])), (hCAo, .inl (cI, 150, .inl CAow)), (hCAp, .inl (cI, 150, .inl CApa)), (hSV, .inr (4, [.ref hCA, .ref hSVr, .ref hSVq, .ref hSVm]))]) 0 0 := by
  refine ct_of RX5 (by decide +kernel) rfl (Nat.le_of_ble_eq_true rfl) (fun j cx => ?_)
  unfold f_X5_firstShift at hm
  show j 0 0 [(hNW, .inr (3, [.int NWru, .int NWco, .ref hNWk, .ref hNWt, .ref hNWm, .ref hNWc])), (hNWk, .inl (cI, 30, .inl NWKa)), (hNWt, .inl (cI, 30, .inl NWTa)), (hNWm, .inl (cI, 30, .inl NWMa)), (hNWc, .inl (cI, 24, .inl NWCa)), (hCA, .inr (0, [.ref hNW, .ref hCAo, .ref hCAp])), (hCAo, .inl (cI, 150, .inl CAow)), (hCAp, .inl (cI, 150, .inl CApa)), (hSV, .inr (4, [.ref hCA, .ref hSVr, .ref hSVq, .ref hSVm]))] [(0, .ref hSV), (1, .int p0), (2, .int p1)] 0 []
  refine j_iload_n (pc' := 1) cx 1 dX5_firstShift_0 rfl rfl ?_
  refine j_istore_n (lv' := [(3, .int p0), (0, .ref hSV), (1, .int p0), (2, .int p1)]) (pc' := 2) cx dX5_firstShift_1 (by decide) rfl rfl ?_
  obtain ⟨e2, h_1, h_2⟩ := bd_s hm
  have KXe2 : ∀ e2x, e2 = .inl e2x → j 0 0 [(hNW, .inr (3, [.int NWru, .int NWco, .ref hNWk, .ref hNWt, .ref hNWm, .ref hNWc])), (hNWk, .inl (cI, 30, .inl NWKa)), (hNWt, .inl (cI, 30, .inl NWTa)), (hNWm, .inl (cI, 30, .inl NWMa)), (hNWc, .inl (cI, 24, .inl NWCa)), (hCA, .inr (0, [.ref hNW, .ref hCAo, .ref hCAp])), (hCAo, .inl (cI, 150, .inl CAow)), (hCAp, .inl (cI, 150, .inl CApa)), (hSV, .inr (4, [.ref hCA, .ref hSVr, .ref hSVq, .ref hSVm]))] [] 26 [] := by
    intro e2x ze2
    subst ze2
    have h_3 := se_l h_2
    refine j_bipush (pc' := 28) cx (-5) dX5_firstShift_26 kb_m5 rfl ?_
    have h_4 := so_i h_3
    subst h_4
    exact j_ret cx (Or.inr (Or.inl ⟨_, _, rfl, rfl, dX5_firstShift_28, rfl, rfl⟩)) ⟨rfl, rfl⟩
  have LPe2 : ∀ (n : Nat) (s1 : Int32), lp (f_X5_firstShift_b1 NWco NWKa NWTa NWMa NWCa CAow CApa p1) n s1 = some e2 → j 0 0 [(hNW, .inr (3, [.int NWru, .int NWco, .ref hNWk, .ref hNWt, .ref hNWm, .ref hNWc])), (hNWk, .inl (cI, 30, .inl NWKa)), (hNWt, .inl (cI, 30, .inl NWTa)), (hNWm, .inl (cI, 30, .inl NWMa)), (hNWc, .inl (cI, 24, .inl NWCa)), (hCA, .inr (0, [.ref hNW, .ref hCAo, .ref hCAp])), (hCAo, .inl (cI, 150, .inl CAow)), (hCAp, .inl (cI, 150, .inl CApa)), (hSV, .inr (4, [.ref hCA, .ref hSVr, .ref hSVq, .ref hSVm]))] [(0, .ref hSV), (2, .int p1), (3, .int s1)] 2 [] := by
    intro n
    induction n with
    | zero => intro s1 z; exact absurd z (by intro z; cases z)
    | succ n ihe2 =>
      intro s1 h_5
      obtain ⟨q_6, h_7, h_8⟩ := bd_s h_5
      unfold f_X5_firstShift_b1 at h_7
      refine j_iload_n (pc' := 3) cx 2 dX5_firstShift_2 rfl rfl ?_
      refine j_sipush (pc' := 6) cx 150 dX5_firstShift_3 ks_150 rfl ?_
      refine j_icmp_ge (tgt := 26) (pc' := 9) cx dX5_firstShift_6 (by decide) rfl (fun ch_7 => ?_) (fun ch_7 => ?_)
      · have h_9 := it_t h_7 ch_7
        have h_10 := so_i h_9
        subst h_10
        have h_11 := so_i (se_r h_8)
        subst h_11
        refine j_lv (lv' := []) cx [] rfl ?_
        exact KXe2 _ rfl
      · have h_12 := it_f h_7 ch_7
        refine j_aload_n (pc' := 10) cx 0 dX5_firstShift_9 rfl rfl ?_
        refine j_iload_n (pc' := 11) cx 2 dX5_firstShift_10 rfl rfl ?_
        refine j_iload_n (pc' := 12) cx 1 dX5_firstShift_11 rfl rfl ?_
        obtain ⟨r3, c4, h_13⟩ := bd_s h_12
        refine j_cV (pc' := 15) cx (c_X5_comesUponItself l D cI cZ cC cS hNW hNWk hNWt hNWm hNWc hCA hCAo hCAp hSV hSVr hSVq hSVm NWru NWco NWKa NWTa NWMa NWCa CAow CApa s1 p1 r3 c4) 2 yk_X5_comesUponItself wM_X5_92 ⟨wN_X5_comesUponItself, wS_X5_comesUponItself, wI_X5, wC_X5_comesUponItself⟩ ⟨rfl, rfl, Nat.le_of_ble_eq_true rfl, Nat.le_of_ble_eq_true rfl, Nat.le_of_ble_eq_true rfl, Nat.le_of_ble_eq_true rfl⟩ [0, 1, 2, 3, 4, 5, 6, 7, 8] [] [0, 1, 2, 3, 4, 5, 6, 7, 8] rfl [] rfl (by decide) [(hNW, .inr (3, [.int NWru, .int NWco, .ref hNWk, .ref hNWt, .ref hNWm, .ref hNWc])), (hNWk, .inl (cI, 30, .inl NWKa)), (hNWt, .inl (cI, 30, .inl NWTa)), (hNWm, .inl (cI, 30, .inl NWMa)), (hNWc, .inl (cI, 24, .inl NWCa)), (hCA, .inr (0, [.ref hNW, .ref hCAo, .ref hCAp])), (hCAo, .inl (cI, 150, .inl CAow)), (hCAp, .inl (cI, 150, .inl CApa)), (hSV, .inr (4, [.ref hCA, .ref hSVr, .ref hSVq, .ref hSVm]))] rfl (by decide) 8 4 rfl rfl rfl rfl rfl (Nat.le_of_ble_eq_true rfl) dX5_firstShift_12 rfl ?_
        refine j_if_eq (tgt := 20) (pc' := 18) cx dX5_firstShift_15 (by decide) rfl (fun ch_13 => ?_) (fun ch_13 => ?_)
        · have h_14 := it_t h_13 ch_13
          refine j_iinc (v := (s1 + 1)) (lv' := [(3, .int (s1 + 1)), (0, .ref hSV), (2, .int p1)]) (pc' := 23) cx 2 dX5_firstShift_20 rfl (kn_1 _) (by decide) rfl rfl ?_
          refine j_goto (pc' := 2) cx dX5_firstShift_23 (by decide) ?_
          have h_15 := so_i h_14
          subst h_15
          refine j_lv (lv' := [(0, .ref hSV), (2, .int p1), (3, .int (s1 + 1))]) cx [1, 2, 0] rfl ?_
          exact ihe2 _ (se_l h_8)
        · have h_16 := it_f h_13 ch_13
          refine j_iload_n (pc' := 19) cx 2 dX5_firstShift_18 rfl rfl ?_
          have h_17 := so_i h_16
          subst h_17
          have h_18 := so_i (se_r h_8)
          subst h_18
          have h_19 := se_r h_2
          have h_20 := so_i h_19
          subst h_20
          exact j_ret cx (Or.inr (Or.inl ⟨_, _, rfl, rfl, dX5_firstShift_19, rfl, rfl⟩)) ⟨rfl, rfl⟩
  refine j_lv (lv' := [(0, .ref hSV), (2, .int p1), (3, .int p0)]) cx [1, 3, 0] rfl ?_
  exact LPe2 _ _ h_1
