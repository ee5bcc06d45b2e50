/-! THE CLAIM OUT OF ONE WALK OF THE LAW'S BODY. Your part is whole_start (and what it stands on); all else here is the same for every law, but numbers. -/
def R_law : String := "CarpetCrossesLaw"
def lw_P (b : Addr) (xs : List Int32) (args : Array Value) (s : State) : Prop := args = #[.ref b] ∧ s.IntsAt b xs ∧ xs.length ≤ 2048 ∧ (Jvm.Cond.and given_1 narrow_1).before args s = true
def lw_Q (_ : Array Value) (s : State) (o : Outcome) (t : State) : Prop := o = .returned (some (.int 1)) ∧ Framed s o t [] 600000 7302250
def lw_Z (below : List Frame) (a : Array Value) (s : State) : State → Prop := fun t => ∃ o, t.status = .running ∧ Ended t below o ∧ lw_Q a s o t
/-- the law's own end, with 1 on the stack, nothing written that was there before, its room as the claim has it -/
theorem lw_ret {p : Program} {l : Launch} {e : Env} {s : State} {m : MethodId} {below : List Frame} {meth : Method} {c : Code} {b : Nat} (hx : p.tables.exec = Jvm.exec) (hb : c.code = code) (hr : meth.sig.returnType = ret) (hlocks : meth.locks = false) {pc : Nat} {H : Heap} {ls : Array Slot} (hdg : decode code pc = .ok (.ireturn, 1)) : W p l e room_1 s m #[Value.ref b] below meth c H [] 600000 7302250 (lw_Z below #[Value.ref b] s) (F0 m pc ls [.int 1]) := by
  intro T hT X
  obtain ⟨fs, hret, hrun, hended, hW, hframe⟩ := X.leave (v := some (.int 1)) (hlocks := hlocks) (fun h => by rw [hr] at h; cases h)
  have hmeth' : T.vm.method? m = some meth := X.method'
  refine ⟨T.setFrames fs, ?_, .returned (some (.int 1)), hrun, hended, rfl, ⟨_, rfl⟩, hW, hframe⟩
  jvm_step X.here [X.here.top, hx, hb, hdg, hmeth', hr, ret, narrow_b1]
  (try refine ⟨rfl, ?_⟩); (try refine ⟨rfl, ?_⟩)
  first | (intro acts; rw [hret _ acts rfl rfl rfl]) | rw [hret _ _ rfl rfl rfl]
  exact Steps.refl _
/-- what holds at the law's entry: the machine, the code, the tables' words (any of lw_tbl by 'hts w (by decide +kernel)'), the script of L ints xs at the cell b, what the Statement gives of the start (any of its parts by flat_of_before) -/
def lw_At (p : Program) (s : State) (m : MethodId) (meth : Method) (c : Code) (b L : Nat) (xs : Nat → Int32) : Prop :=
  p.tables.exec = Jvm.exec ∧ c.code = code ∧ meth.sig.returnType = ret ∧ c.maxLocals = 4 ∧ s.vm.findClass R_law = some m.cls ∧ (∀ w ∈ lw_tbl, w.before #[Value.ref b] s = true) ∧ va_X b L xs s s.heap ∧ b < s.heap.size ∧ meth.locks = false ∧ (Jvm.Cond.and given_1 narrow_1).before #[Value.ref b] s = true
/-- THE LAW'S OWN JUDGEMENT: that of its body, and what holds at its entry -/
def LX (l : Launch) (D : va_G) (cI cZ cC cS : ClassId) (b L : Nat) (xs : Nat → Int32) (j : JT) : Prop := ∃ (p : Program) (e : Env) (s : State) (m : MethodId) (below : List Frame) (meth : Method) (c : Code), lw_At p s m meth c b L xs ∧ KK (D, TY cI cZ cC cS) s ∧ j = jw_X p l e room_1 s m #[Value.ref b] below meth c (D, TY cI cZ cC cS) (fun q : Nat => s.heap.size ≤ q) s.heap (lw_Z below #[Value.ref b] s) 4
section LXR
variable {l : Launch} {D : va_G} {cI cZ cC cS : ClassId} {b L : Nat} {xs : Nat → Int32} {j : JT} {kc ks : Nat} {ws : va_W} {lv : List (Nat × Value)} {pc pc' : Nat} {st : List Value}
theorem lx_cx (h : LX l D cI cZ cC cS b L xs j) : Cx l cL_law RL 4 room_1 (D, TY cI cZ cC cS) (some .boolean) (fun v _ => v = some (.int 1)) 600000 7302250 false j := by
  obtain ⟨p, e, s, m, below, meth, c, hAt, hK, rfl⟩ := h
  obtain ⟨hx, hb, hr, hml, hown, hts, hX, hbl, hlocks, hgv⟩ := id hAt
  refine ⟨p, e, s, m, #[Value.ref b], below, meth, c, fun q : Nat => s.heap.size ≤ q, s.heap, lw_Z below #[Value.ref b] s, hx, hb, hml, hown, fun w h => hts w (BG_in w h), hK, fun _ h => h, (fun h => (by cases h)), ?_, rfl⟩
  intro v ws pc st H locs ls hv hj h1 h2 h3
  subst hv
  rcases hj with ⟨h, -⟩ | ⟨ty, x, h, hn, hd, rfl, hx1⟩ | ⟨ty, a, h, -⟩
  · cases h
  · cases hx1
    refine va_forget (fun q hq => h3.2.2 q hq) ?_
    exact lw_ret hx hb hr hlocks hd
  · cases h
/-- the script's numbers, and how many they are -/
theorem j_sld (h0 : LX l D cI cZ cC cS b L xs j) {i : Int32} (v : Int32) (hv : xs i.toNatClampNeg = v) (hin : vp_in i L) (hdg : decode cL_law pc = .ok (.iaload, 1)) (hp : pc + 1 = pc') (h : j kc ks ws lv pc' (.int v :: st)) : j kc ks ws lv pc (.int i :: .ref b :: st) := by
  obtain ⟨p, e, s, m, below, meth, c, ⟨hx, hb, hr, hml, hown, hts, hX, hbl, hlocks, hgv⟩, hK, rfl⟩ := h0
  subst hp; subst hv
  intro H locs ls g1 g2 g3 g4
  exact va_sld hx hb hX hbl (Nat.not_le.mpr hbl) g3 hin hdg (h H locs ls g1 g2 g3 g4)
theorem j_slen (h0 : LX l D cI cZ cC cS b L xs j) (hdg : decode cL_law pc = .ok (.arraylength, 1)) (hp : pc + 1 = pc') (h : j kc ks ws lv pc' (.int (nI L) :: st)) : j kc ks ws lv pc (.ref b :: st) := by
  obtain ⟨p, e, s, m, below, meth, c, ⟨hx, hb, hr, hml, hown, hts, hX, hbl, hlocks, hgv⟩, hK, rfl⟩ := h0
  subst hp
  intro H locs ls g1 g2 g3 g4
  exact va_slen hx hb hX hbl (Nat.not_le.mpr hbl) g3 hdg (h H locs ls g1 g2 g3 g4)
end LXR
theorem lw_in0 {i L : Nat} (hi : i + 4 ≤ L) (hL : L ≤ 2048) : vp_in (nI i) L := vp_in_nI (by omega) (by omega)
theorem lw_in1 {i L : Nat} (hi : i + 4 ≤ L) (hL : L ≤ 2048) : vp_in (nI i + 1) L := by rw [px_l1, nI_add]; exact vp_in_nI (by omega) (by omega)
theorem lw_in2 {i L : Nat} (hi : i + 4 ≤ L) (hL : L ≤ 2048) : vp_in (nI i + 2) L := by rw [px_l2, nI_add]; exact vp_in_nI (by omega) (by omega)
theorem lw_in3 {i L : Nat} (hi : i + 4 ≤ L) (hL : L ≤ 2048) : vp_in (nI i + 3) L := by rw [px_l3, nI_add]; exact vp_in_nI (by omega) (by omega)
theorem lw_b31 : (Int8.ofInt 31).toInt32 = (31 : Int32) := by decide +kernel
theorem lw_n4 (i : Nat) : nI i + Int32.ofInt 4 = nI (i + 4) := by rw [show Int32.ofInt 4 = nI 4 from by decide +kernel, nI_add]
/-- the loop's own test -/
theorem lw_end {i L : Nat} (hi : i ≤ 2048) (hL : L ≤ 2048) : (nI L - 4 < nI i) ↔ ¬ i + 4 ≤ L := by
  have h4 : (4 : Int32) = nI 4 := id rfl
  rw [h4]
  rcases Nat.lt_or_ge L 4 with h | h
  · rw [px_nsub (show L ≤ 4 by omega), px_mlt (by omega) (by omega) (by omega)]
    exact ⟨fun _ => by omega, fun _ => trivial⟩
  · rw [pk_sub h, nI_ltI (by omega) (by omega)]
    omega
/-- a char of any number -/
theorem lw_c16 (x : Int32) : ∃ v : Nat, v ≤ 65535 ∧ (x.toUInt32 % 65536).toInt32 = nI v := by
  refine ⟨(x.toUInt32 % 65536).toNat, ?_, ?_⟩
  · rw [UInt32.toNat_mod, show (65536 : UInt32).toNat = 65536 from by decide +kernel]
    omega
  · refine Int32.toBitVec_inj.mp (BitVec.eq_of_toNat_eq ?_)
    show (x.toUInt32 % 65536).toBitVec.toNat = (BitVec.ofNat 32 (x.toUInt32 % 65536).toBitVec.toNat).toNat
    rw [BitVec.toNat_ofNat, Nat.mod_eq_of_lt (x.toUInt32 % 65536).toBitVec.isLt]
/-- the classes, as the tables have them at the law's entry -/
theorem lw_kk {s : State} {args : Array Value} (hts0 : ∀ w ∈ lw_tbl, w.before args s = true) : ∃ (D : va_G) (cI cZ cC cS : ClassId), KK (D, TY cI cZ cC cS) s := by
  have hts : ∀ w ∈ BG, w.before args s = true := fun w h => hts0 w (BG_in w h)
  obtain ⟨c0, i0, k0⟩ := u_known (C := RX1) (T := TX1) (N := 3) (n := 3) hts uB_X1 (hts _ wA_X1)
  obtain ⟨c1, i1, k1⟩ := u_known (C := RX2) (T := TX2) (N := 9) (n := 9) hts uB_X2 (hts _ wA_X2)
  obtain ⟨c2, i2, k2⟩ := u_known (C := RX3) (T := TX3) (N := 2) (n := 2) hts uB_X3 (hts _ wA_X3)
  obtain ⟨c3, i3, k3⟩ := u_known (C := RX4) (T := TX4) (N := 6) (n := 6) hts uB_X4 (hts _ wA_X4)
  obtain ⟨c4, i4, k4⟩ := u_known (C := RX5) (T := TX5) (N := 4) (n := 4) hts uB_X5 (hts _ wA_X5)
  obtain ⟨c5, i5, k5⟩ := u_known (C := RX6) (T := TX6) (N := 7) (n := 7) hts uB_X6 (hts _ wA_X6)
  obtain ⟨c6, i6, k6⟩ := u_known (C := RX7) (T := TX7) (N := 16) (n := 16) hts uB_X7 (hts _ wA_X7)
  obtain ⟨cI, kI, pI, a1, a2, a3⟩ := Cond.arrayClass_spec (hts _ wR_int)
  obtain ⟨cZ, kZ, pZ, b1, b2, b3⟩ := Cond.arrayClass_spec (hts _ wR_boolean)
  obtain ⟨cC, kC, pC, d1, d2, d3⟩ := Cond.arrayClass_spec (hts _ wR_char)
  have hao : (Cond.arrayOver (.object "CarpetCrosses$State")).before args s = true := hts0 _ (List.mem_of_getElem? (i := 212) (by decide +kernel))
  obtain ⟨comp, cS, kS, f1, f2, f3, f4, f5⟩ := Cond.arrayOver_spec hao
  refine ⟨(fun k => if k = 0 then c0 else if k = 1 then c1 else if k = 2 then c2 else if k = 3 then c3 else if k = 4 then c4 else if k = 5 then c5 else c6, fun k => if k = 0 then i0 else if k = 1 then i1 else if k = 2 then i2 else if k = 3 then i3 else if k = 4 then i4 else if k = 5 then i5 else i6), cI, cZ, cC, cS, ⟨?_, ?_⟩, va_AO.of hao⟩
  · intro k q hq
    match k, hq with
    | 0, hq => cases hq; exact k0
    | 1, hq => cases hq; exact k1
    | 2, hq => cases hq; exact k2
    | 3, hq => cases hq; exact k3
    | 4, hq => cases hq; exact k4
    | 5, hq => cases hq; exact k5
    | 6, hq => cases hq; exact k6
    | k + 7, hq => simp [vwCl] at hq
  · intro k q hq
    match k, hq with
    | 0, hq => cases hq; exact ⟨fun n z => ⟨fun k h => (by cases h), kI, a2, pI, a3⟩, a1⟩
    | 1, hq => cases hq; exact ⟨fun n z => ⟨fun k h => (by cases h), kZ, b2, pZ, b3⟩, b1⟩
    | 2, hq => cases hq; exact ⟨fun n z => ⟨fun k h => (by cases h), kC, d2, pC, d3⟩, d1⟩
    | 3, hq => cases hq; exact ⟨fun n z => ⟨fun k h => (by cases h), kS, f3, comp, f4⟩, kS, comp, f3, f4, f1, f5⟩
    | k + 4, hq => simp at hq
/-- what is to be shown behind a call of both: for any states in relation the law goes on -/
abbrev LK (j : JT) (cI cZ cC cS : ClassId) (b : Nat) (hNW hNWk hNWt hNWm hNWc hBE hBEk hBEt hBEm hBEc hSN hSNk hSNt hSNm hSNc hCA hCAo hCAp hSV hSVr hSVq hSVm hTX hTXs hTXc hPA hXX hMO hMOz hMOa hMOb hMOk hMOt hMOo hMOw hMOm hMOq hMOn hPAs : Nat) (i : Nat) : Prop := ∀ (NWru : Int32) (NWco : Int32) (NWKa : Nat → Int32) (NWTa : Nat → Int32) (NWMa : Nat → Int32) (NWCa : Nat → Int32) (BEru : Int32) (BEco : Int32) (BEKa : Nat → Int32) (BETa : Nat → Int32) (BEMa : Nat → Int32) (BECa : Nat → Int32) (SNru : Int32) (SNco : Int32) (SNKa : Nat → Int32) (SNTa : Nat → Int32) (SNMa : Nat → Int32) (SNCa : Nat → Int32) (CAow : Nat → Int32) (CApa : Nat → Int32) (SVre : Nat → Int32) (SVqu : Nat → Int32) (SVme : Nat → Int32) (TXle : Int32) (TXpo : Int32) (TXfa : Int32) (TXso : Int32) (TXki : Int32) (TXtu : Int32) (TXce : Int32) (TXsi : Nat → Int32) (TXcl : Nat → Int32) (PAco : Int32) (PAv : PV) (XXhs : Int32) (MOst : Int32) (MOik : Int32) (MOln : Int32) (MOpl : Int32) (MOiw : Int32) (MOle : Int32) (MOza : Nat → Int32) (MOas : Nat → Int32) (MObe : Nat → Int32) (MOke : Nat → Int32) (MOtx : Nat → Int32) (MOon : Nat → Int32) (MOwy : Nat → Int32) (MOmk : Nat → Int32) (MOqu : Nat → Int32) (MOnu : Nat → Int32), RA NWru NWco NWKa NWTa NWMa NWCa CAow CApa MOza MOon MOwy → RH PAco PAv MOst MObe → RS XXhs SNru SNco SNKa SNTa SNMa SNCa MOik MOke → RT TXle TXsi MOln MOtx → j 59 3056 [(hNW, .inr (3, [.int NWru, .int NWco, .ref hNWk, .ref hNWt, .ref hNWm, .ref hNWc])), (hNWk, .inl (cI, 30, .inl NWKa)), (hNWt, .inl (cI, 30, .inl NWTa)), (hNWm, .inl (cI, 30, .inl NWMa)), (hNWc, .inl (cI, 24, .inl NWCa)), (hBE, .inr (3, [.int BEru, .int BEco, .ref hBEk, .ref hBEt, .ref hBEm, .ref hBEc])), (hBEk, .inl (cI, 30, .inl BEKa)), (hBEt, .inl (cI, 30, .inl BETa)), (hBEm, .inl (cI, 30, .inl BEMa)), (hBEc, .inl (cI, 24, .inl BECa)), (hSN, .inr (3, [.int SNru, .int SNco, .ref hSNk, .ref hSNt, .ref hSNm, .ref hSNc])), (hSNk, .inl (cI, 30, .inl SNKa)), (hSNt, .inl (cI, 30, .inl SNTa)), (hSNm, .inl (cI, 30, .inl SNMa)), (hSNc, .inl (cI, 24, .inl SNCa)), (hCA, .inr (0, [.ref hNW, .ref hCAo, .ref hCAp])), (hCAo, .inl (cI, 150, .inl CAow)), (hCAp, .inl (cI, 150, .inl CApa)), (hSV, .inr (4, [.ref hCA, .ref hSVr, .ref hSVq, .ref hSVm])), (hSVr, .inl (cZ, 150, .inl SVre)), (hSVq, .inl (cI, 150, .inl SVqu)), (hSVm, .inl (cZ, 30, .inl SVme)), (hTX, .inr (1, [.ref hTXs, .int TXle, .int TXpo, .int TXfa, .int TXso, .int TXki, .int TXtu, .int TXce, .ref hTXc])), (hTXs, .inl (cC, 60, .inl TXsi)), (hTXc, .inl (cI, 4, .inl TXcl)), (hPA, .inr (2, [.ref hPAs, .int PAco])), (hXX, .inr (5, [.ref hSV, .ref hCA, .ref hTX, .ref hPA, .ref hBE, .ref hSN, .int XXhs])), (hMO, .inr (6, [.ref hMOz, .ref hMOa, .ref hMOb, .int MOst, .ref hMOk, .int MOik, .ref hMOt, .int MOln, .ref hMOo, .ref hMOw, .ref hMOm, .ref hMOq, .int MOpl, .int MOiw, .int MOle, .ref hMOn])), (hMOz, .inl (cI, 116, .inl MOza)), (hMOa, .inl (cI, 116, .inl MOas)), (hMOb, .inl (cI, 464, .inl MObe)), (hMOk, .inl (cI, 116, .inl MOke)), (hMOt, .inl (cI, 60, .inl MOtx)), (hMOo, .inl (cI, 150, .inl MOon)), (hMOw, .inl (cI, 150, .inl MOwy)), (hMOm, .inl (cI, 150, .inl MOmk)), (hMOq, .inl (cI, 150, .inl MOqu)), (hMOn, .inl (cI, 5, .inl MOnu)), (hPAs, .inl (cS, 4, .inr (.inr (.inr (.inr (pv_r PAv)))))), (PAv.1.1.1, .inr (3, [.int PAv.1.2.1, .int PAv.1.2.2.1, .ref PAv.1.1.2.1, .ref PAv.1.1.2.2.1, .ref PAv.1.1.2.2.2.1, .ref PAv.1.1.2.2.2.2])), (PAv.1.1.2.1, .inl (cI, 30, .inl PAv.1.2.2.2.1)), (PAv.1.1.2.2.1, .inl (cI, 30, .inl PAv.1.2.2.2.2.1)), (PAv.1.1.2.2.2.1, .inl (cI, 30, .inl PAv.1.2.2.2.2.2.1)), (PAv.1.1.2.2.2.2, .inl (cI, 24, .inl PAv.1.2.2.2.2.2.2)), (PAv.2.1.1.1, .inr (3, [.int PAv.2.1.2.1, .int PAv.2.1.2.2.1, .ref PAv.2.1.1.2.1, .ref PAv.2.1.1.2.2.1, .ref PAv.2.1.1.2.2.2.1, .ref PAv.2.1.1.2.2.2.2])), (PAv.2.1.1.2.1, .inl (cI, 30, .inl PAv.2.1.2.2.2.1)), (PAv.2.1.1.2.2.1, .inl (cI, 30, .inl PAv.2.1.2.2.2.2.1)), (PAv.2.1.1.2.2.2.1, .inl (cI, 30, .inl PAv.2.1.2.2.2.2.2.1)), (PAv.2.1.1.2.2.2.2, .inl (cI, 24, .inl PAv.2.1.2.2.2.2.2.2)), (PAv.2.2.1.1.1, .inr (3, [.int PAv.2.2.1.2.1, .int PAv.2.2.1.2.2.1, .ref PAv.2.2.1.1.2.1, .ref PAv.2.2.1.1.2.2.1, .ref PAv.2.2.1.1.2.2.2.1, .ref PAv.2.2.1.1.2.2.2.2])), (PAv.2.2.1.1.2.1, .inl (cI, 30, .inl PAv.2.2.1.2.2.2.1)), (PAv.2.2.1.1.2.2.1, .inl (cI, 30, .inl PAv.2.2.1.2.2.2.2.1)), (PAv.2.2.1.1.2.2.2.1, .inl (cI, 30, .inl PAv.2.2.1.2.2.2.2.2.1)), (PAv.2.2.1.1.2.2.2.2, .inl (cI, 24, .inl PAv.2.2.1.2.2.2.2.2.2)), (PAv.2.2.2.1.1, .inr (3, [.int PAv.2.2.2.2.1, .int PAv.2.2.2.2.2.1, .ref PAv.2.2.2.1.2.1, .ref PAv.2.2.2.1.2.2.1, .ref PAv.2.2.2.1.2.2.2.1, .ref PAv.2.2.2.1.2.2.2.2])), (PAv.2.2.2.1.2.1, .inl (cI, 30, .inl PAv.2.2.2.2.2.2.1)), (PAv.2.2.2.1.2.2.1, .inl (cI, 30, .inl PAv.2.2.2.2.2.2.2.1)), (PAv.2.2.2.1.2.2.2.1, .inl (cI, 30, .inl PAv.2.2.2.2.2.2.2.2.1)), (PAv.2.2.2.1.2.2.2.2, .inl (cI, 24, .inl PAv.2.2.2.2.2.2.2.2.2))] [(0, .ref b), (1, .ref hXX), (2, .ref hMO), (3, .int (nI i))] 741 []
