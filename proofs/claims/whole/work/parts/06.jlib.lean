/-! THE WALK'S OWN JUDGEMENT: a world, the locals, a place and a stack, with heap, cells and machine hidden; a rule for each instruction that occurs. -/
abbrev JT : Type := Nat → Nat → va_W → List (Nat × Value) → Nat → List Value → Prop
abbrev JG : Type := va_G × List (ClassId × FieldType)
def KK (G : JG) (U : State) : Prop := va_K G.1 vwCl G.2 U ∧ va_AO "CarpetCrosses$State" U
theorem KK.moved {G : JG} {u U : State} (hvm : u.vm.Alike U.vm) (h : KK G u) : KK G U := ⟨va_K.moved hvm h.1, va_AO.moved hvm h.2⟩
/-- how a method may end at pc, with this on its stack -/
def jw_r (ret : Option FieldType) (cc : ByteArray) (pc : Nat) (st : List Value) (v : Option Value) : Prop :=
  (ret = none ∧ decode cc pc = .ok (.return_, 1) ∧ st = [] ∧ v = none) ∨
  (∃ (ty : FieldType) (x : Int32), ret = some ty ∧ narrow ty (.int x) = .int x ∧ decode cc pc = .ok (.ireturn, 1) ∧ st = [.int x] ∧ v = some (.int x)) ∨
  (∃ (ty : FieldType) (a : Nat), ret = some (.array ty) ∧ decode cc pc = .ok (.areturn, 1) ∧ st = [.ref a] ∧ v = some (.ref a))
def jw_X (p : Program) (l : Launch) (e : Env) (R : Room) (s : State) (m : MethodId) (args : Array Value) (below : List Frame) (meth : Method) (c : Code) (G : JG) (A : Nat → Prop) (H0 : Heap) (Q : State → Prop) (nL : Nat) : JT :=
  fun k n ws lv pc st => ∀ (H : Heap) (locs : List Loc) (ls : Array Slot), va_P G.1 vwCl ws H → va_D A ws → va_S A H0 H locs → lv_has ls nL lv → W p l e R s m args below meth c H locs k n Q (F0 m pc ls st)
def Cx (l : Launch) (cc : ByteArray) (own : String) (nL : Nat) (R : Room) (G : JG) (ret : Option FieldType) (P : Option Value → va_W → Prop) (mc ms : Nat) (ini : Bool) (j : JT) : Prop :=
  ∃ (p : Program) (e : Env) (s : State) (m : MethodId) (args : Array Value) (below : List Frame) (meth : Method) (c : Code) (A : Nat → Prop) (H0 : Heap) (Q : State → Prop),
    p.tables.exec = Jvm.exec ∧ c.code = cc ∧ c.maxLocals = nL ∧ s.vm.findClass own = some m.cls ∧ (∀ w ∈ BG, w.before args s = true) ∧ KK G s ∧ (∀ q : Nat, H0.size ≤ q → A q) ∧ (ini = true → meth.name = "<init>") ∧
    (∀ (v : Option Value) (ws : va_W) (pc : Nat) (st : List Value) (H : Heap) (locs : List Loc) (ls : Array Slot), P v ws → jw_r ret cc pc st v → va_P G.1 vwCl ws H → va_D A ws → va_S A H0 H locs → W p l e R s m args below meth c H locs mc ms Q (F0 m pc ls st)) ∧
    j = jw_X p l e R s m args below meth c G A H0 Q nL
section JRULES
variable {l : Launch} {cc : ByteArray} {own : String} {nL : Nat} {R : Room} {G : JG} {ret : Option FieldType} {P : Option Value → va_W → Prop} {mc ms : Nat} {ini : Bool} {j : JT}
variable {kc ks : Nat} {ws : va_W} {lv : List (Nat × Value)} {pc pc' : Nat} {st : List Value}
theorem j_ret (cx : Cx l cc own nL R G ret P mc ms ini j) {v : Option Value} (hr : jw_r ret cc pc st v) (hP : P v ws) : j mc ms ws lv pc st := by
  obtain ⟨p, e, s, m, args, below, meth, c, A, H0, Q, hx, hb, hml, hown, hts, hK, hA, hini, hret, rfl⟩ := cx
  intro H locs ls h1 h2 h3 h4
  exact hret v ws pc st H locs ls hP hr h1 h2 h3
theorem j_widen (cx : Cx l cc own nL R G ret P mc ms ini j) {k n : Nat} (h1 : kc ≤ k) (h2 : ks ≤ n) (h : j k n ws lv pc st) : j kc ks ws lv pc st := by
  obtain ⟨p, e, s, m, args, below, meth, c, A, H0, Q, hx, hb, hml, hown, hts, hK, hA, hini, hret, rfl⟩ := cx
  intro H locs ls g1 g2 g3 g4
  exact W.widen h1 h2 (h H locs ls g1 g2 g3 g4)
/-- fewer locals -/
theorem j_lv (cx : Cx l cc own nL R G ret P mc ms ini j) {lv' : List (Nat × Value)} (is : List Nat) (hs : lv_pick lv is = lv') (h : j kc ks ws lv' pc st) : j kc ks ws lv pc st := by
  obtain ⟨p, e, s, m, args, below, meth, c, A, H0, Q, hx, hb, hml, hown, hts, hK, hA, hini, hret, rfl⟩ := cx
  intro H locs ls g1 g2 g3 g4
  exact h H locs ls g1 g2 g3 (lv_sub g4 is hs)
theorem j_fm {α β : Type} {f : α → Option β} {is : List α} {w : List β} (h : is.map f = w.map some) : is.filterMap f = w := by
  induction is generalizing w with
  | nil => cases w with
    | nil => rfl
    | cons a w => cases h
  | cons a is ih => cases w with
    | nil => cases h
    | cons b w =>
      simp only [List.map_cons, List.cons.injEq] at h
      rw [List.filterMap_cons, h.1, ih h.2]
/-- the cells in another order, or fewer -/
theorem j_ws (cx : Cx l cc own nL R G ret P mc ms ini j) {ws' : va_W} (is : List Nat) (hn : va_nd is = true) (hs : is.map (fun i => ws[i]?) = ws'.map some) (h : j kc ks ws' lv pc st) : j kc ks ws lv pc st := by
  obtain ⟨p, e, s, m, args, below, meth, c, A, H0, Q, hx, hb, hml, hown, hts, hK, hA, hini, hret, rfl⟩ := cx
  intro H locs ls g1 g2 g3 g4
  exact h H locs ls (g1.sub is (j_fm hs)) (g2.sub is hn hs) g3 g4
theorem j_iconst (cx : Cx l cc own nL R G ret P mc ms ini j) {n : Int} (v : Int32) (hdg : decode cc pc = .ok (.iconst n, 1)) (hv : Int32.ofInt n = v) (hp : pc + 1 = pc') (h : j kc ks ws lv pc' (.int v :: st)) : j kc ks ws lv pc st := by
  obtain ⟨p, e, s, m, args, below, meth, c, A, H0, Q, hx, hb, hml, hown, hts, hK, hA, hini, hret, rfl⟩ := cx
  subst hp
  intro H locs ls g1 g2 g3 g4
  exact lv_iconst hx hb hdg hv (h H locs ls g1 g2 g3 g4)
theorem j_bipush (cx : Cx l cc own nL R G ret P mc ms ini j) {n : Int} (v : Int32) (hdg : decode cc pc = .ok (.bipush n, 2)) (hv : (Int8.ofInt n).toInt32 = v) (hp : pc + 2 = pc') (h : j kc ks ws lv pc' (.int v :: st)) : j kc ks ws lv pc st := by
  obtain ⟨p, e, s, m, args, below, meth, c, A, H0, Q, hx, hb, hml, hown, hts, hK, hA, hini, hret, rfl⟩ := cx
  subst hp
  intro H locs ls g1 g2 g3 g4
  exact lv_bipush hx hb hdg hv (h H locs ls g1 g2 g3 g4)
theorem j_sipush (cx : Cx l cc own nL R G ret P mc ms ini j) {n : Int} (v : Int32) (hdg : decode cc pc = .ok (.sipush n, 3)) (hv : (Int16.ofInt n).toInt32 = v) (hp : pc + 3 = pc') (h : j kc ks ws lv pc' (.int v :: st)) : j kc ks ws lv pc st := by
  obtain ⟨p, e, s, m, args, below, meth, c, A, H0, Q, hx, hb, hml, hown, hts, hK, hA, hini, hret, rfl⟩ := cx
  subst hp
  intro H locs ls g1 g2 g3 g4
  exact lv_sipush hx hb hdg hv (h H locs ls g1 g2 g3 g4)
theorem j_iload_n (cx : Cx l cc own nL R G ret P mc ms ini j) {i : Fin 4} {x : Int32} (k : Nat) (hdg : decode cc pc = .ok (.iload_n i, 1)) (hk : lv[k]? = some (i.val, .int x)) (hp : pc + 1 = pc') (h : j kc ks ws lv pc' (.int x :: st)) : j kc ks ws lv pc st := by
  obtain ⟨p, e, s, m, args, below, meth, c, A, H0, Q, hx, hb, hml, hown, hts, hK, hA, hini, hret, rfl⟩ := cx
  subst hp
  intro H locs ls g1 g2 g3 g4
  exact lv_iload_n hx hb hdg rfl (lv_at g4 k hk) (h H locs ls g1 g2 g3 g4)
theorem j_iload (cx : Cx l cc own nL R G ret P mc ms ini j) {i : Nat} {x : Int32} (k : Nat) (hdg : decode cc pc = .ok (.iload i, 2)) (hk : lv[k]? = some (i, .int x)) (hp : pc + 2 = pc') (h : j kc ks ws lv pc' (.int x :: st)) : j kc ks ws lv pc st := by
  obtain ⟨p, e, s, m, args, below, meth, c, A, H0, Q, hx, hb, hml, hown, hts, hK, hA, hini, hret, rfl⟩ := cx
  subst hp
  intro H locs ls g1 g2 g3 g4
  exact lv_iload hx hb hdg (lv_at g4 k hk) (h H locs ls g1 g2 g3 g4)
theorem j_aload_n (cx : Cx l cc own nL R G ret P mc ms ini j) {i : Fin 4} {x : Nat} (k : Nat) (hdg : decode cc pc = .ok (.aload_n i, 1)) (hk : lv[k]? = some (i.val, .ref x)) (hp : pc + 1 = pc') (h : j kc ks ws lv pc' (.ref x :: st)) : j kc ks ws lv pc st := by
  obtain ⟨p, e, s, m, args, below, meth, c, A, H0, Q, hx, hb, hml, hown, hts, hK, hA, hini, hret, rfl⟩ := cx
  subst hp
  intro H locs ls g1 g2 g3 g4
  exact lv_aload_n hx hb hdg rfl (lv_at g4 k hk) (h H locs ls g1 g2 g3 g4)
theorem j_istore_n (cx : Cx l cc own nL R G ret P mc ms ini j) {i : Fin 4} {x : Int32} {lv' : List (Nat × Value)} (hdg : decode cc pc = .ok (.istore_n i, 1)) (hn : i.val < nL) (hl : (i.val, Value.int x) :: lv.filter (fun q => !(q.1 == i.val) && !(q.1 + 1 == i.val && q.2.category == 2)) = lv') (hp : pc + 1 = pc') (h : j kc ks ws lv' pc' st) : j kc ks ws lv pc (.int x :: st) := by
  obtain ⟨p, e, s, m, args, below, meth, c, A, H0, Q, hx, hb, hml, hown, hts, hK, hA, hini, hret, rfl⟩ := cx
  subst hp
  intro H locs ls g1 g2 g3 g4
  exact lv_istore_n hx hb hdg rfl g4 hn hl (fun ls' g => h H locs ls' g1 g2 g3 g)
theorem j_istore (cx : Cx l cc own nL R G ret P mc ms ini j) {i : Nat} {x : Int32} {lv' : List (Nat × Value)} (hdg : decode cc pc = .ok (.istore i, 2)) (hn : i < nL) (hl : (i, Value.int x) :: lv.filter (fun q => !(q.1 == i) && !(q.1 + 1 == i && q.2.category == 2)) = lv') (hp : pc + 2 = pc') (h : j kc ks ws lv' pc' st) : j kc ks ws lv pc (.int x :: st) := by
  obtain ⟨p, e, s, m, args, below, meth, c, A, H0, Q, hx, hb, hml, hown, hts, hK, hA, hini, hret, rfl⟩ := cx
  subst hp
  intro H locs ls g1 g2 g3 g4
  exact lv_istore hx hb hdg g4 hn hl (fun ls' g => h H locs ls' g1 g2 g3 g)
theorem j_astore_n (cx : Cx l cc own nL R G ret P mc ms ini j) {i : Fin 4} {x : Nat} {lv' : List (Nat × Value)} (hdg : decode cc pc = .ok (.astore_n i, 1)) (hn : i.val < nL) (hl : (i.val, Value.ref x) :: lv.filter (fun q => !(q.1 == i.val) && !(q.1 + 1 == i.val && q.2.category == 2)) = lv') (hp : pc + 1 = pc') (h : j kc ks ws lv' pc' st) : j kc ks ws lv pc (.ref x :: st) := by
  obtain ⟨p, e, s, m, args, below, meth, c, A, H0, Q, hx, hb, hml, hown, hts, hK, hA, hini, hret, rfl⟩ := cx
  subst hp
  intro H locs ls g1 g2 g3 g4
  exact lv_astore_n hx hb hdg rfl g4 hn hl (fun ls' g => h H locs ls' g1 g2 g3 g)
theorem j_iinc (cx : Cx l cc own nL R G ret P mc ms ini j) {i : Nat} {n : Int} {x v : Int32} {lv' : List (Nat × Value)} (k : Nat) (hdg : decode cc pc = .ok (.iinc i n, 3)) (hk : lv[k]? = some (i, .int x)) (hv : x + Int32.ofInt n = v) (hn : i < nL) (hl : (i, Value.int v) :: lv.filter (fun q => !(q.1 == i) && !(q.1 + 1 == i && q.2.category == 2)) = lv') (hp : pc + 3 = pc') (h : j kc ks ws lv' pc' st) : j kc ks ws lv pc st := by
  obtain ⟨p, e, s, m, args, below, meth, c, A, H0, Q, hx, hb, hml, hown, hts, hK, hA, hini, hret, rfl⟩ := cx
  subst hp
  intro H locs ls g1 g2 g3 g4
  exact lv_iinc hx hb hdg g4 hk hv hn hl (fun ls' g => h H locs ls' g1 g2 g3 g)
theorem j_iadd (cx : Cx l cc own nL R G ret P mc ms ini j) {x y : Int32} (hdg : decode cc pc = .ok (.iadd, 1)) (hp : pc + 1 = pc') (h : j kc ks ws lv pc' (.int (x + y) :: st)) : j kc ks ws lv pc (.int y :: .int x :: st) := by
  obtain ⟨p, e, s, m, args, below, meth, c, A, H0, Q, hx, hb, hml, hown, hts, hK, hA, hini, hret, rfl⟩ := cx
  subst hp
  intro H locs ls g1 g2 g3 g4
  exact lv_iadd hx hb hdg (h H locs ls g1 g2 g3 g4)
theorem j_isub (cx : Cx l cc own nL R G ret P mc ms ini j) {x y : Int32} (hdg : decode cc pc = .ok (.isub, 1)) (hp : pc + 1 = pc') (h : j kc ks ws lv pc' (.int (x - y) :: st)) : j kc ks ws lv pc (.int y :: .int x :: st) := by
  obtain ⟨p, e, s, m, args, below, meth, c, A, H0, Q, hx, hb, hml, hown, hts, hK, hA, hini, hret, rfl⟩ := cx
  subst hp
  intro H locs ls g1 g2 g3 g4
  exact lv_isub hx hb hdg (h H locs ls g1 g2 g3 g4)
theorem j_imul (cx : Cx l cc own nL R G ret P mc ms ini j) {x y : Int32} (hdg : decode cc pc = .ok (.imul, 1)) (hp : pc + 1 = pc') (h : j kc ks ws lv pc' (.int (x * y) :: st)) : j kc ks ws lv pc (.int y :: .int x :: st) := by
  obtain ⟨p, e, s, m, args, below, meth, c, A, H0, Q, hx, hb, hml, hown, hts, hK, hA, hini, hret, rfl⟩ := cx
  subst hp
  intro H locs ls g1 g2 g3 g4
  exact lv_imul hx hb hdg (h H locs ls g1 g2 g3 g4)
theorem j_iand (cx : Cx l cc own nL R G ret P mc ms ini j) {x y : Int32} (hdg : decode cc pc = .ok (.iand, 1)) (hp : pc + 1 = pc') (h : j kc ks ws lv pc' (.int (x &&& y) :: st)) : j kc ks ws lv pc (.int y :: .int x :: st) := by
  obtain ⟨p, e, s, m, args, below, meth, c, A, H0, Q, hx, hb, hml, hown, hts, hK, hA, hini, hret, rfl⟩ := cx
  subst hp
  intro H locs ls g1 g2 g3 g4
  exact lv_iand hx hb hdg (h H locs ls g1 g2 g3 g4)
theorem j_idiv (cx : Cx l cc own nL R G ret P mc ms ini j) {x y : Int32} (hdg : decode cc pc = .ok (.idiv, 1)) (hne : ¬ y = 0) (hp : pc + 1 = pc') (h : j kc ks ws lv pc' (.int (x / y) :: st)) : j kc ks ws lv pc (.int y :: .int x :: st) := by
  obtain ⟨p, e, s, m, args, below, meth, c, A, H0, Q, hx, hb, hml, hown, hts, hK, hA, hini, hret, rfl⟩ := cx
  subst hp
  intro H locs ls g1 g2 g3 g4
  exact lv_idiv hx hb hdg hne (h H locs ls g1 g2 g3 g4)
theorem j_irem (cx : Cx l cc own nL R G ret P mc ms ini j) {x y : Int32} (hdg : decode cc pc = .ok (.irem, 1)) (hne : ¬ y = 0) (hp : pc + 1 = pc') (h : j kc ks ws lv pc' (.int (rm x y) :: st)) : j kc ks ws lv pc (.int y :: .int x :: st) := by
  obtain ⟨p, e, s, m, args, below, meth, c, A, H0, Q, hx, hb, hml, hown, hts, hK, hA, hini, hret, rfl⟩ := cx
  subst hp
  intro H locs ls g1 g2 g3 g4
  exact lv_irem hx hb hdg hne (h H locs ls g1 g2 g3 g4)
theorem j_i2c (cx : Cx l cc own nL R G ret P mc ms ini j) {x : Int32} (hdg : decode cc pc = .ok (.i2c, 1)) (hp : pc + 1 = pc') (h : j kc ks ws lv pc' (.int (x.toUInt32 % 65536).toInt32 :: st)) : j kc ks ws lv pc (.int x :: st) := by
  obtain ⟨p, e, s, m, args, below, meth, c, A, H0, Q, hx, hb, hml, hown, hts, hK, hA, hini, hret, rfl⟩ := cx
  subst hp
  intro H locs ls g1 g2 g3 g4
  exact lv_i2c hx hb hdg rfl (h H locs ls g1 g2 g3 g4)
theorem j_dup (cx : Cx l cc own nL R G ret P mc ms ini j) {x : Value} (hdg : decode cc pc = .ok (.dup, 1)) (hc : x.category = 1) (hp : pc + 1 = pc') (h : j kc ks ws lv pc' (x :: x :: st)) : j kc ks ws lv pc (x :: st) := by
  obtain ⟨p, e, s, m, args, below, meth, c, A, H0, Q, hx, hb, hml, hown, hts, hK, hA, hini, hret, rfl⟩ := cx
  subst hp
  intro H locs ls g1 g2 g3 g4
  exact lv_dup hx hb hdg hc (h H locs ls g1 g2 g3 g4)
theorem j_dup2 (cx : Cx l cc own nL R G ret P mc ms ini j) {x y : Value} (hdg : decode cc pc = .ok (.dup2, 1)) (hc : x.category = 1) (hd : y.category = 1) (hp : pc + 1 = pc') (h : j kc ks ws lv pc' (x :: y :: x :: y :: st)) : j kc ks ws lv pc (x :: y :: st) := by
  obtain ⟨p, e, s, m, args, below, meth, c, A, H0, Q, hx, hb, hml, hown, hts, hK, hA, hini, hret, rfl⟩ := cx
  subst hp
  intro H locs ls g1 g2 g3 g4
  exact lv_dup2_11 hx hb hdg hc hd (h H locs ls g1 g2 g3 g4)
theorem j_pop (cx : Cx l cc own nL R G ret P mc ms ini j) {x : Value} (hdg : decode cc pc = .ok (.pop, 1)) (hc : x.category = 1) (hp : pc + 1 = pc') (h : j kc ks ws lv pc' st) : j kc ks ws lv pc (x :: st) := by
  obtain ⟨p, e, s, m, args, below, meth, c, A, H0, Q, hx, hb, hml, hown, hts, hK, hA, hini, hret, rfl⟩ := cx
  subst hp
  intro H locs ls g1 g2 g3 g4
  exact lv_pop hx hb hdg hc (h H locs ls g1 g2 g3 g4)
theorem j_goto (cx : Cx l cc own nL R G ret P mc ms ini j) {off : Int} (hdg : decode cc pc = .ok (.goto off, 3)) (ht : (pc : Int) + off = (pc' : Int)) (h : j kc ks ws lv pc' st) : j kc ks ws lv pc st := by
  obtain ⟨p, e, s, m, args, below, meth, c, A, H0, Q, hx, hb, hml, hown, hts, hK, hA, hini, hret, rfl⟩ := cx
  intro H locs ls g1 g2 g3 g4
  exact lv_goto hx hb hdg ht (h H locs ls g1 g2 g3 g4)
theorem j_icmp_eq (cx : Cx l cc own nL R G ret P mc ms ini j) {x y : Int32} {off : Int} {tgt : Nat} (hdg : decode cc pc = .ok (.if_icmp .eq off, 3)) (ht : (pc : Int) + off = (tgt : Int)) (hp : pc + 3 = pc') (kt : x = y → j kc ks ws lv tgt st) (kf : ¬ x = y → j kc ks ws lv pc' st) : j kc ks ws lv pc (.int y :: .int x :: st) := by
  obtain ⟨p, e, s, m, args, below, meth, c, A, H0, Q, hx, hb, hml, hown, hts, hK, hA, hini, hret, rfl⟩ := cx
  subst hp
  intro H locs ls g1 g2 g3 g4
  exact lv_icmp_eq hx hb hdg ht (fun q => kt q H locs ls g1 g2 g3 g4) (fun q => kf q H locs ls g1 g2 g3 g4)
theorem j_icmp_ne (cx : Cx l cc own nL R G ret P mc ms ini j) {x y : Int32} {off : Int} {tgt : Nat} (hdg : decode cc pc = .ok (.if_icmp .ne off, 3)) (ht : (pc : Int) + off = (tgt : Int)) (hp : pc + 3 = pc') (kt : ¬ x = y → j kc ks ws lv tgt st) (kf : x = y → j kc ks ws lv pc' st) : j kc ks ws lv pc (.int y :: .int x :: st) := by
  obtain ⟨p, e, s, m, args, below, meth, c, A, H0, Q, hx, hb, hml, hown, hts, hK, hA, hini, hret, rfl⟩ := cx
  subst hp
  intro H locs ls g1 g2 g3 g4
  exact lv_icmp_ne hx hb hdg ht (fun q => kt q H locs ls g1 g2 g3 g4) (fun q => kf q H locs ls g1 g2 g3 g4)
theorem j_icmp_lt (cx : Cx l cc own nL R G ret P mc ms ini j) {x y : Int32} {off : Int} {tgt : Nat} (hdg : decode cc pc = .ok (.if_icmp .lt off, 3)) (ht : (pc : Int) + off = (tgt : Int)) (hp : pc + 3 = pc') (kt : x < y → j kc ks ws lv tgt st) (kf : ¬ x < y → j kc ks ws lv pc' st) : j kc ks ws lv pc (.int y :: .int x :: st) := by
  obtain ⟨p, e, s, m, args, below, meth, c, A, H0, Q, hx, hb, hml, hown, hts, hK, hA, hini, hret, rfl⟩ := cx
  subst hp
  intro H locs ls g1 g2 g3 g4
  exact lv_icmp_lt hx hb hdg ht (fun q => kt q H locs ls g1 g2 g3 g4) (fun q => kf q H locs ls g1 g2 g3 g4)
theorem j_icmp_ge (cx : Cx l cc own nL R G ret P mc ms ini j) {x y : Int32} {off : Int} {tgt : Nat} (hdg : decode cc pc = .ok (.if_icmp .ge off, 3)) (ht : (pc : Int) + off = (tgt : Int)) (hp : pc + 3 = pc') (kt : y ≤ x → j kc ks ws lv tgt st) (kf : ¬ y ≤ x → j kc ks ws lv pc' st) : j kc ks ws lv pc (.int y :: .int x :: st) := by
  obtain ⟨p, e, s, m, args, below, meth, c, A, H0, Q, hx, hb, hml, hown, hts, hK, hA, hini, hret, rfl⟩ := cx
  subst hp
  intro H locs ls g1 g2 g3 g4
  exact lv_icmp_ge hx hb hdg ht (fun q => kt q H locs ls g1 g2 g3 g4) (fun q => kf q H locs ls g1 g2 g3 g4)
theorem j_icmp_gt (cx : Cx l cc own nL R G ret P mc ms ini j) {x y : Int32} {off : Int} {tgt : Nat} (hdg : decode cc pc = .ok (.if_icmp .gt off, 3)) (ht : (pc : Int) + off = (tgt : Int)) (hp : pc + 3 = pc') (kt : y < x → j kc ks ws lv tgt st) (kf : ¬ y < x → j kc ks ws lv pc' st) : j kc ks ws lv pc (.int y :: .int x :: st) := by
  obtain ⟨p, e, s, m, args, below, meth, c, A, H0, Q, hx, hb, hml, hown, hts, hK, hA, hini, hret, rfl⟩ := cx
  subst hp
  intro H locs ls g1 g2 g3 g4
  exact lv_icmp_gt hx hb hdg ht (fun q => kt q H locs ls g1 g2 g3 g4) (fun q => kf q H locs ls g1 g2 g3 g4)
theorem j_icmp_le (cx : Cx l cc own nL R G ret P mc ms ini j) {x y : Int32} {off : Int} {tgt : Nat} (hdg : decode cc pc = .ok (.if_icmp .le off, 3)) (ht : (pc : Int) + off = (tgt : Int)) (hp : pc + 3 = pc') (kt : x ≤ y → j kc ks ws lv tgt st) (kf : ¬ x ≤ y → j kc ks ws lv pc' st) : j kc ks ws lv pc (.int y :: .int x :: st) := by
  obtain ⟨p, e, s, m, args, below, meth, c, A, H0, Q, hx, hb, hml, hown, hts, hK, hA, hini, hret, rfl⟩ := cx
  subst hp
  intro H locs ls g1 g2 g3 g4
  exact lv_icmp_le hx hb hdg ht (fun q => kt q H locs ls g1 g2 g3 g4) (fun q => kf q H locs ls g1 g2 g3 g4)
theorem j_if_eq (cx : Cx l cc own nL R G ret P mc ms ini j) {x : Int32} {off : Int} {tgt : Nat} (hdg : decode cc pc = .ok (.ifCond .eq off, 3)) (ht : (pc : Int) + off = (tgt : Int)) (hp : pc + 3 = pc') (kt : x = 0 → j kc ks ws lv tgt st) (kf : ¬ x = 0 → j kc ks ws lv pc' st) : j kc ks ws lv pc (.int x :: st) := by
  obtain ⟨p, e, s, m, args, below, meth, c, A, H0, Q, hx, hb, hml, hown, hts, hK, hA, hini, hret, rfl⟩ := cx
  subst hp
  intro H locs ls g1 g2 g3 g4
  exact lv_if_eq hx hb hdg ht (fun q => kt q H locs ls g1 g2 g3 g4) (fun q => kf q H locs ls g1 g2 g3 g4)
theorem j_if_ne (cx : Cx l cc own nL R G ret P mc ms ini j) {x : Int32} {off : Int} {tgt : Nat} (hdg : decode cc pc = .ok (.ifCond .ne off, 3)) (ht : (pc : Int) + off = (tgt : Int)) (hp : pc + 3 = pc') (kt : ¬ x = 0 → j kc ks ws lv tgt st) (kf : x = 0 → j kc ks ws lv pc' st) : j kc ks ws lv pc (.int x :: st) := by
  obtain ⟨p, e, s, m, args, below, meth, c, A, H0, Q, hx, hb, hml, hown, hts, hK, hA, hini, hret, rfl⟩ := cx
  subst hp
  intro H locs ls g1 g2 g3 g4
  exact lv_if_ne hx hb hdg ht (fun q => kt q H locs ls g1 g2 g3 g4) (fun q => kf q H locs ls g1 g2 g3 g4)
theorem j_if_lt (cx : Cx l cc own nL R G ret P mc ms ini j) {x : Int32} {off : Int} {tgt : Nat} (hdg : decode cc pc = .ok (.ifCond .lt off, 3)) (ht : (pc : Int) + off = (tgt : Int)) (hp : pc + 3 = pc') (kt : x < 0 → j kc ks ws lv tgt st) (kf : ¬ x < 0 → j kc ks ws lv pc' st) : j kc ks ws lv pc (.int x :: st) := by
  obtain ⟨p, e, s, m, args, below, meth, c, A, H0, Q, hx, hb, hml, hown, hts, hK, hA, hini, hret, rfl⟩ := cx
  subst hp
  intro H locs ls g1 g2 g3 g4
  exact lv_if_lt hx hb hdg ht (fun q => kt q H locs ls g1 g2 g3 g4) (fun q => kf q H locs ls g1 g2 g3 g4)
theorem j_if_ge (cx : Cx l cc own nL R G ret P mc ms ini j) {x : Int32} {off : Int} {tgt : Nat} (hdg : decode cc pc = .ok (.ifCond .ge off, 3)) (ht : (pc : Int) + off = (tgt : Int)) (hp : pc + 3 = pc') (kt : 0 ≤ x → j kc ks ws lv tgt st) (kf : ¬ 0 ≤ x → j kc ks ws lv pc' st) : j kc ks ws lv pc (.int x :: st) := by
  obtain ⟨p, e, s, m, args, below, meth, c, A, H0, Q, hx, hb, hml, hown, hts, hK, hA, hini, hret, rfl⟩ := cx
  subst hp
  intro H locs ls g1 g2 g3 g4
  exact lv_if_ge hx hb hdg ht (fun q => kt q H locs ls g1 g2 g3 g4) (fun q => kf q H locs ls g1 g2 g3 g4)
theorem j_if_gt (cx : Cx l cc own nL R G ret P mc ms ini j) {x : Int32} {off : Int} {tgt : Nat} (hdg : decode cc pc = .ok (.ifCond .gt off, 3)) (ht : (pc : Int) + off = (tgt : Int)) (hp : pc + 3 = pc') (kt : 0 < x → j kc ks ws lv tgt st) (kf : ¬ 0 < x → j kc ks ws lv pc' st) : j kc ks ws lv pc (.int x :: st) := by
  obtain ⟨p, e, s, m, args, below, meth, c, A, H0, Q, hx, hb, hml, hown, hts, hK, hA, hini, hret, rfl⟩ := cx
  subst hp
  intro H locs ls g1 g2 g3 g4
  exact lv_if_gt hx hb hdg ht (fun q => kt q H locs ls g1 g2 g3 g4) (fun q => kf q H locs ls g1 g2 g3 g4)
theorem j_if_le (cx : Cx l cc own nL R G ret P mc ms ini j) {x : Int32} {off : Int} {tgt : Nat} (hdg : decode cc pc = .ok (.ifCond .le off, 3)) (ht : (pc : Int) + off = (tgt : Int)) (hp : pc + 3 = pc') (kt : x ≤ 0 → j kc ks ws lv tgt st) (kf : ¬ x ≤ 0 → j kc ks ws lv pc' st) : j kc ks ws lv pc (.int x :: st) := by
  obtain ⟨p, e, s, m, args, below, meth, c, A, H0, Q, hx, hb, hml, hown, hts, hK, hA, hini, hret, rfl⟩ := cx
  subst hp
  intro H locs ls g1 g2 g3 g4
  exact lv_if_le hx hb hdg ht (fun q => kt q H locs ls g1 g2 g3 g4) (fun q => kf q H locs ls g1 g2 g3 g4)
/-- a switch: the arm of a number that it names, and the arm of all others -/
theorem j_tab_in (cx : Cx l cc own nL R G ret P mc ms ini j) {dflt lo hi : Int} {offs : Array Int} {len : Nat} {x v : Int32} {off : Int} {tgt : Nat} (hdg : decode cc pc = .ok (.tableswitch dflt lo hi offs, len)) (hv : x = v) (h1 : ¬ v.toInt < lo) (h2 : ¬ hi < v.toInt) (ho : offs[(v.toInt - lo).toNat]? = some off) (ht : (pc : Int) + off = (tgt : Int)) (h : j kc ks ws lv tgt st) : j kc ks ws lv pc (.int x :: st) := by
  obtain ⟨p, e, s, m, args, below, meth, c, A, H0, Q, hx, hb, hml, hown, hts, hK, hA, hini, hret, rfl⟩ := cx
  subst hv
  intro H locs ls g1 g2 g3 g4
  exact lv_tableIn hx hb hdg h1 h2 ho ht (h H locs ls g1 g2 g3 g4)
theorem jw_sw {x : Int32} {lo hi : Int} (h : ∀ n : Int, lo ≤ n → n ≤ hi → ¬ x = Int32.ofInt n) : x.toInt < lo ∨ hi < x.toInt := by
  rcases Int.lt_or_le x.toInt lo with h1 | h1
  · exact Or.inl h1
  · rcases Int.lt_or_le hi x.toInt with h2 | h2
    · exact Or.inr h2
    · exact absurd (Int32.ofInt_toInt x).symm (h x.toInt h1 h2)
theorem j_tab_out (cx : Cx l cc own nL R G ret P mc ms ini j) {dflt lo hi : Int} {offs : Array Int} {len : Nat} {x : Int32} {tgt : Nat} (hdg : decode cc pc = .ok (.tableswitch dflt lo hi offs, len)) (hv : ∀ n : Int, lo ≤ n → n ≤ hi → ¬ x = Int32.ofInt n) (ht : (pc : Int) + dflt = (tgt : Int)) (h : j kc ks ws lv tgt st) : j kc ks ws lv pc (.int x :: st) := by
  obtain ⟨p, e, s, m, args, below, meth, c, A, H0, Q, hx, hb, hml, hown, hts, hK, hA, hini, hret, rfl⟩ := cx
  intro H locs ls g1 g2 g3 g4
  exact lv_tableOut hx hb hdg (jw_sw hv) ht (h H locs ls g1 g2 g3 g4)
theorem j_look (cx : Cx l cc own nL R G ret P mc ms ini j) {dflt : Int} {ps : Array (Int × Int)} {len : Nat} {x : Int32} {off : Int} {tgt : Nat} (hdg : decode cc pc = .ok (.lookupswitch dflt ps, len)) (hq : (ps.toList.zip (ps.toList.drop 1)).all (fun (a, next) => a.1 < next.1) = true) (ho : Op.lookupswitch.offset ps.toList dflt x.toInt = off) (ht : (pc : Int) + off = (tgt : Int)) (h : j kc ks ws lv tgt st) : j kc ks ws lv pc (.int x :: st) := by
  obtain ⟨p, e, s, m, args, below, meth, c, A, H0, Q, hx, hb, hml, hown, hts, hK, hA, hini, hret, rfl⟩ := cx
  intro H locs ls g1 g2 g3 g4
  exact lv_lookup hx hb hdg hq ho ht (h H locs ls g1 g2 g3 g4)
theorem jw_ne {x : Int32} {n : Int} (h : ¬ x = Int32.ofInt n) : ¬ x.toInt = n := fun e => h (by rw [← e]; exact (Int32.ofInt_toInt x).symm)
theorem j_get (cx : Cx l cc own nL R G ret P mc ms ini j) {C : String} {T : u_T} {N ci index a : Nat} (hin : ∀ w ∈ u_ws C T N, w ∈ BG) (q0 : Nat) {fs : List Value} (he : ws[q0]? = some (a, .inr (ci, fs))) (hc : vwCl[ci]? = some (C, T, N)) (k : Nat) (hk : k < N) (hlink : Cond.fieldLink own index (T k).1 (T k).2.1 (T k).2.2.1 ∈ BG) (v : Value) (hv : fs[k]? = some v) (hdg : decode cc pc = .ok (.getfield index, 3)) (hp : pc + 3 = pc') (h : j kc ks ws lv pc' (v :: st)) : j kc ks ws lv pc (.ref a :: st) := by
  obtain ⟨p, e, s, m, args, below, meth, c, A, H0, Q, hx, hb, hml, hown, hts, hK, hA, hini, hret, rfl⟩ := cx
  subst hp
  intro H locs ls g1 g2 g3 g4
  exact va_get hx hb hts hin hown hK.1 g1 q0 he hc k hk (hts _ hlink) (fun _ h9 => h9) hv hdg (h H locs ls g1 g2 g3 g4)
theorem j_put (cx : Cx l cc own nL R G ret P mc ms ini j) {C : String} {T : u_T} {N ci index a : Nat} (hin : ∀ w ∈ u_ws C T N, w ∈ BG) (ty0 : Nat → FieldType) (hty : ∀ k, k < N → parseFieldDescriptor (T k).2.2.1 = some (ty0 k)) (hnm : ∀ a, a < N → ∀ b, b < N → a ≠ b → (T a).2.1 ≠ (T b).2.1) (q0 : Nat) {fs : List Value} (he : ws[q0]? = some (a, .inr (ci, fs))) (hc : vwCl[ci]? = some (C, T, N)) (k : Nat) (hk : k < N) (hlink : Cond.fieldLink own index (T k).1 (T k).2.1 (T k).2.2.1 ∈ BG) (hfin : (T k).2.2.2 = false) {v : Value} (hn : narrow (ty0 k) v = v) (hfit : fits (ty0 k) v = true) (hl : k < fs.length) {ws' : va_W} (hw : ws.set q0 (a, .inr (ci, fs.set k v)) = ws') (hdg : decode cc pc = .ok (.putfield index, 3)) (hp : pc + 3 = pc') (h : j kc ks ws' lv pc' st) : j kc ks ws lv pc (v :: .ref a :: st) := by
  obtain ⟨p, e, s, m, args, below, meth, c, A, H0, Q, hx, hb, hml, hown, hts, hK, hA, hini, hret, rfl⟩ := cx
  subst hp; subst hw
  intro H locs ls g1 g2 g3 g4
  exact va_put hx hb hts hin ty0 hty hnm hown hK.1 g1 g2 g3 q0 he hc k hk (hts _ hlink) (fun _ h9 => h9) hfin (hty k hk) hn hfit hl hdg (fun H1 locs1 b1 b2 b3 => h H1 locs1 ls b1 b2 b3 g4)
theorem j_putF (cx : Cx l cc own nL R G ret P mc ms true j) {C : String} {T : u_T} {N ci index a : Nat} (hin : ∀ w ∈ u_ws C T N, w ∈ BG) (ty0 : Nat → FieldType) (hty : ∀ k, k < N → parseFieldDescriptor (T k).2.2.1 = some (ty0 k)) (hnm : ∀ a, a < N → ∀ b, b < N → a ≠ b → (T a).2.1 ≠ (T b).2.1) (q0 : Nat) {fs : List Value} (he : ws[q0]? = some (a, .inr (ci, fs))) (hc : vwCl[ci]? = some (C, T, N)) (k : Nat) (hk : k < N) (hlink : Cond.fieldLink own index (T k).1 (T k).2.1 (T k).2.2.1 ∈ BG) (hfin : (T k).2.2.2 = true) (hdecl : (T k).1 = own) {v : Value} (hn : narrow (ty0 k) v = v) (hfit : fits (ty0 k) v = true) (hl : k < fs.length) {ws' : va_W} (hw : ws.set q0 (a, .inr (ci, fs.set k v)) = ws') (hdg : decode cc pc = .ok (.putfield index, 3)) (hp : pc + 3 = pc') (h : j kc ks ws' lv pc' st) : j kc ks ws lv pc (v :: .ref a :: st) := by
  obtain ⟨p, e, s, m, args, below, meth, c, A, H0, Q, hx, hb, hml, hown, hts, hK, hA, hini, hret, rfl⟩ := cx
  subst hp; subst hw
  intro H locs ls g1 g2 g3 g4
  exact va_putF hx hb hts hin ty0 hty hnm hown hK.1 g1 g2 g3 q0 he hc k hk (hts _ hlink) (fun _ h9 => h9) hfin (hini rfl) hdecl (hty k hk) hn hfit hl hdg (fun H1 locs1 b1 b2 b3 => h H1 locs1 ls b1 b2 b3 g4)
theorem j_iald (cx : Cx l cc own nL R G ret P mc ms ini j) (q0 t0 : Nat) {a n : Nat} {cA : ClassId} {f : Nat → Int32} (ha : ws[q0]? = some (a, .inl (cA, n, .inl f))) (ht : G.2[t0]? = some (cA, .int)) {i : Int32} (hin : vp_in i n) (hdg : decode cc pc = .ok (.iaload, 1)) (hp : pc + 1 = pc') (h : j kc ks ws lv pc' (.int (f i.toNatClampNeg) :: st)) : j kc ks ws lv pc (.int i :: .ref a :: st) := by
  obtain ⟨p, e, s, m, args, below, meth, c, A, H0, Q, hx, hb, hml, hown, hts, hK, hA, hini, hret, rfl⟩ := cx
  subst hp
  intro H locs ls g1 g2 g3 g4
  exact va_iald hx hb hK.1 g1 q0 t0 ha ht hin hdg (h H locs ls g1 g2 g3 g4)
theorem j_zald (cx : Cx l cc own nL R G ret P mc ms ini j) (q0 t0 : Nat) {a n : Nat} {cA : ClassId} {f : Nat → Int32} (ha : ws[q0]? = some (a, .inl (cA, n, .inl f))) (ht : G.2[t0]? = some (cA, .boolean)) {i : Int32} (hin : vp_in i n) (hdg : decode cc pc = .ok (.baload, 1)) (hp : pc + 1 = pc') (h : j kc ks ws lv pc' (.int (f i.toNatClampNeg) :: st)) : j kc ks ws lv pc (.int i :: .ref a :: st) := by
  obtain ⟨p, e, s, m, args, below, meth, c, A, H0, Q, hx, hb, hml, hown, hts, hK, hA, hini, hret, rfl⟩ := cx
  subst hp
  intro H locs ls g1 g2 g3 g4
  exact va_zald hx hb hK.1 g1 q0 t0 ha ht hin hdg (h H locs ls g1 g2 g3 g4)
theorem j_cald (cx : Cx l cc own nL R G ret P mc ms ini j) (q0 t0 : Nat) {a n : Nat} {cA : ClassId} {f : Nat → Int32} (ha : ws[q0]? = some (a, .inl (cA, n, .inl f))) (ht : G.2[t0]? = some (cA, .char)) {i : Int32} (hin : vp_in i n) (hdg : decode cc pc = .ok (.caload, 1)) (hp : pc + 1 = pc') (h : j kc ks ws lv pc' (.int (f i.toNatClampNeg) :: st)) : j kc ks ws lv pc (.int i :: .ref a :: st) := by
  obtain ⟨p, e, s, m, args, below, meth, c, A, H0, Q, hx, hb, hml, hown, hts, hK, hA, hini, hret, rfl⟩ := cx
  subst hp
  intro H locs ls g1 g2 g3 g4
  exact va_cald hx hb hK.1 g1 q0 t0 ha ht hin hdg (h H locs ls g1 g2 g3 g4)
theorem j_aald (cx : Cx l cc own nL R G ret P mc ms ini j) (q0 t0 : Nat) {a n b : Nat} {cA : ClassId} {C : String} {f : Nat → Option Nat} (ha : ws[q0]? = some (a, .inl (cA, n, .inr (.inr (.inr (.inr f)))))) (ht : G.2[t0]? = some (cA, .object C)) {i : Int32} (hin : vp_in i n) (hf : f i.toNatClampNeg = some b) (hdg : decode cc pc = .ok (.aaload, 1)) (hp : pc + 1 = pc') (h : j kc ks ws lv pc' (.ref b :: st)) : j kc ks ws lv pc (.int i :: .ref a :: st) := by
  obtain ⟨p, e, s, m, args, below, meth, c, A, H0, Q, hx, hb, hml, hown, hts, hK, hA, hini, hret, rfl⟩ := cx
  subst hp
  intro H locs ls g1 g2 g3 g4
  refine va_aldq hx hb hK.1 g1 q0 t0 ha ht hin hdg ?_
  rw [hf]
  exact h H locs ls g1 g2 g3 g4
theorem j_iast (cx : Cx l cc own nL R G ret P mc ms ini j) (q0 t0 : Nat) {a n : Nat} {cA : ClassId} {f : Nat → Int32} (ha : ws[q0]? = some (a, .inl (cA, n, .inl f))) (ht : G.2[t0]? = some (cA, .int)) {i x : Int32} (hin : vp_in i n) {ws' : va_W} (hw : ws.set q0 (a, .inl (cA, n, .inl (upd f i.toNatClampNeg x))) = ws') (hdg : decode cc pc = .ok (.iastore, 1)) (hp : pc + 1 = pc') (h : j kc ks ws' lv pc' st) : j kc ks ws lv pc (.int x :: .int i :: .ref a :: st) := by
  obtain ⟨p, e, s, m, args, below, meth, c, A, H0, Q, hx, hb, hml, hown, hts, hK, hA, hini, hret, rfl⟩ := cx
  subst hp; subst hw
  intro H locs ls g1 g2 g3 g4
  exact va_iast hx hb hK.1 g1 g2 g3 q0 t0 ha ht hin hdg (fun H1 locs1 b1 b2 b3 => h H1 locs1 ls b1 b2 b3 g4)
theorem j_zast (cx : Cx l cc own nL R G ret P mc ms ini j) (q0 t0 : Nat) {a n : Nat} {cA : ClassId} {f : Nat → Int32} (ha : ws[q0]? = some (a, .inl (cA, n, .inl f))) (ht : G.2[t0]? = some (cA, .boolean)) {i x : Int32} (hin : vp_in i n) {ws' : va_W} (hw : ws.set q0 (a, .inl (cA, n, .inl (upd f i.toNatClampNeg (vp_nar .boolean x)))) = ws') (hdg : decode cc pc = .ok (.bastore, 1)) (hp : pc + 1 = pc') (h : j kc ks ws' lv pc' st) : j kc ks ws lv pc (.int x :: .int i :: .ref a :: st) := by
  obtain ⟨p, e, s, m, args, below, meth, c, A, H0, Q, hx, hb, hml, hown, hts, hK, hA, hini, hret, rfl⟩ := cx
  subst hp; subst hw
  intro H locs ls g1 g2 g3 g4
  exact va_zast hx hb hK.1 g1 g2 g3 q0 t0 ha ht hin hdg (fun H1 locs1 b1 b2 b3 => h H1 locs1 ls b1 b2 b3 g4)
theorem j_cast (cx : Cx l cc own nL R G ret P mc ms ini j) (q0 t0 : Nat) {a n : Nat} {cA : ClassId} {f : Nat → Int32} (ha : ws[q0]? = some (a, .inl (cA, n, .inl f))) (ht : G.2[t0]? = some (cA, .char)) {i x : Int32} (hin : vp_in i n) {ws' : va_W} (hw : ws.set q0 (a, .inl (cA, n, .inl (upd f i.toNatClampNeg (vp_nar .char x)))) = ws') (hdg : decode cc pc = .ok (.castore, 1)) (hp : pc + 1 = pc') (h : j kc ks ws' lv pc' st) : j kc ks ws lv pc (.int x :: .int i :: .ref a :: st) := by
  obtain ⟨p, e, s, m, args, below, meth, c, A, H0, Q, hx, hb, hml, hown, hts, hK, hA, hini, hret, rfl⟩ := cx
  subst hp; subst hw
  intro H locs ls g1 g2 g3 g4
  exact va_cast hx hb hK.1 g1 g2 g3 q0 t0 ha ht hin hdg (fun H1 locs1 b1 b2 b3 => h H1 locs1 ls b1 b2 b3 g4)
theorem j_aast (cx : Cx l cc own nL R G ret P mc ms ini j) (q0 t0 qk ci : Nat) {a n v : Nat} {cA : ClassId} {r : vw_C} {vs : List Value} {f : Nat → Option Nat} (ha : ws[q0]? = some (a, .inl (cA, n, .inr (.inr (.inr (.inr f)))))) (ht : G.2[t0]? = some (cA, .object r.1)) (hv : ws[qk]? = some (v, .inr (ci, vs))) (hc : vwCl[ci]? = some r) {i : Int32} (hin : vp_in i n) {ws' : va_W} (hw : ws.set q0 (a, .inl (cA, n, .inr (.inr (.inr (.inr (va_up f i.toNatClampNeg (some v))))))) = ws') (hdg : decode cc pc = .ok (.aastore, 1)) (hp : pc + 1 = pc') (h : j kc ks ws' lv pc' st) : j kc ks ws lv pc (.ref v :: .int i :: .ref a :: st) := by
  obtain ⟨p, e, s, m, args, below, meth, c, A, H0, Q, hx, hb, hml, hown, hts, hK, hA, hini, hret, rfl⟩ := cx
  subst hp; subst hw
  intro H locs ls g1 g2 g3 g4
  exact va_astq hx hb hK.1 g1 g2 g3 q0 t0 qk ci ha ht hv hc hin hdg (fun H1 locs1 b1 b2 b3 => h H1 locs1 ls b1 b2 b3 g4)
theorem j_alen (cx : Cx l cc own nL R G ret P mc ms ini j) (q0 t0 : Nat) {a : Nat} {cA : ClassId} {x : vp_A} {ty : FieldType} (ha : ws[q0]? = some (a, .inl (cA, x))) (ht : G.2[t0]? = some (cA, ty)) (v : Int32) (hv : Int32.ofNat x.1 = v) (hdg : decode cc pc = .ok (.arraylength, 1)) (hp : pc + 1 = pc') (h : j kc ks ws lv pc' (.int v :: st)) : j kc ks ws lv pc (.ref a :: st) := by
  obtain ⟨p, e, s, m, args, below, meth, c, A, H0, Q, hx, hb, hml, hown, hts, hK, hA, hini, hret, rfl⟩ := cx
  subst hp
  intro H locs ls g1 g2 g3 g4
  exact va_alen hx hb hK.1 g1 q0 t0 ha ht hv hdg (h H locs ls g1 g2 g3 g4)
theorem j_max (cx : Cx l cc own nL R G ret P mc ms ini j) {index : Nat} {x y : Int32} (hlink : Cond.methodLink own index Lib.Math.max.name ∈ BG) (hR : 1 ≤ R.frames ∧ (st.map fun v => v.category).sum + 13 ≤ R.locals) (hk : kc ≤ R.cells ∧ ks ≤ R.slots) (hdg : decode cc pc = .ok (.invokestatic index, 3)) (hp : pc + 3 = pc') (h : j kc ks ws lv pc' (.int (if x < y then y else x) :: st)) : j kc ks ws lv pc (.int y :: .int x :: st) := by
  obtain ⟨p, e, s, m, args, below, meth, c, A, H0, Q, hx, hb, hml, hown, hts, hK, hA, hini, hret, rfl⟩ := cx
  subst hp
  intro H locs ls g1 g2 g3 g4
  exact va_mmax hx hb (hml.trans g4.1.symm) hown (hts _ hlink) (hts _ wT_max) (hts _ wI_Math) (hts _ wC_max) hR.1 hR.2 hk.1 hk.2 hdg (h H locs ls g1 g2 g3 g4)
theorem j_acopy (cx : Cx l cc own nL R G ret P mc ms ini j) {index : Nat} (hlink : Cond.methodLink own index arraycopyName ∈ BG) (q0 q1 t0 : Nat) {a a0 n0 n1 : Nat} {c0 c1 : ClassId} {f g : Nat → Int32} (ha0 : ws[q0]? = some (a0, .inl (c0, n0, .inl f))) (ha1 : ws[q1]? = some (a, .inl (c1, n1, .inl g))) (ht0 : G.2[t0]? = some (c0, .int)) (ht1 : G.2[t0]? = some (c1, .int)) {sp dp n : Int32} (hn : ¬ sp < 0 ∧ ¬ dp < 0 ∧ ¬ n < 0 ∧ sp.toNatClampNeg + n.toNatClampNeg ≤ n0 ∧ dp.toNatClampNeg + n.toNatClampNeg ≤ n1) (hR : 1 ≤ R.frames ∧ (st.map fun v => v.category).sum + (nativeFrameWords "java/lang/System" "arraycopy" 5 + 11) ≤ R.locals) {ws' : va_W} (hw : ws.set q1 (a, .inl (c1, n1, .inl (va_cpy f g sp.toNatClampNeg dp.toNatClampNeg n.toNatClampNeg))) = ws') (hdg : decode cc pc = .ok (.invokestatic index, 3)) (hp : pc + 3 = pc') (h : j kc ks ws' lv pc' st) : j kc ks ws lv pc (.int n :: .int dp :: .ref a :: .int sp :: .ref a0 :: st) := by
  obtain ⟨p, e, s, m, args, below, meth, c, A, H0, Q, hx, hb, hml, hown, hts, hK, hA, hini, hret, rfl⟩ := cx
  subst hp; subst hw
  intro H locs ls g1 g2 g3 g4
  exact va_copyi hx hb (hml.trans g4.1.symm) hown (hts _ hlink) (hts _ wV_acopy) (hts _ wT_acopy) (hts _ wI_System) hK.1 g1 g2 g3 q0 q1 t0 t0 ha0 ha1 ht0 ht1 rfl hn.1 hn.2.1 hn.2.2.1 hn.2.2.2.1 hn.2.2.2.2 (fun _ _ => rfl) hR.1 hR.2 hdg (fun H1 locs1 b1 b2 b3 => h H1 locs1 ls b1 b2 b3 g4)
theorem j_obj (cx : Cx l cc own nL R G ret P mc ms ini j) {index a : Nat} (hlink : Cond.methodLink own index objectInit ∈ BG) (hR : 1 ≤ R.frames ∧ (st.map fun v => v.category).sum + 12 ≤ R.locals) (hdg : decode cc pc = .ok (.invokespecial index, 3)) (hp : pc + 3 = pc') (h : j kc ks ws lv pc' st) : j kc ks ws lv pc (.ref a :: st) := by
  obtain ⟨p, e, s, m, args, below, meth, c, A, H0, Q, hx, hb, hml, hown, hts, hK, hA, hini, hret, rfl⟩ := cx
  subst hp
  intro H locs ls g1 g2 g3 g4
  refine W.objInit hx hb hown (hts _ hlink) (hts _ wN_obj) (hts _ wC_obj) rfl (by rw [hml]; exact g4.1) rfl hdg hR.1 ?_ (h H locs ls g1 g2 g3 g4)
  have h0 : (F0 m pc ls (.ref a :: st)).monitorRoom = 0 := rfl
  rw [h0]
  omega
theorem j_new (cx : Cx l cc own nL R G ret P mc ms ini j) {C : String} {T : u_T} {N ci index : Nat} (hin : ∀ w ∈ u_ws C T N, w ∈ BG) (ty : Nat → FieldType) (hty : ∀ k, k < N → parseFieldDescriptor (T k).2.2.1 = some (ty k)) (hcl : Cond.classLink own index C ∈ BG) (hinst : Cond.instantiable C N ∈ BG) (hini' : Cond.initialized C ∈ BG) (hc : vwCl[ci]? = some (C, T, N)) (fs : List Value) (hfs : ∀ j, j < N → defaultValue (ty j) = vp_V fs j) {kc' ks' : Nat} (hk : kc + 1 = kc' ∧ ks + N = ks' ∧ kc' ≤ R.cells ∧ ks' ≤ R.slots) (hdg : decode cc pc = .ok (.new index, 3)) (hp : pc + 3 = pc') (h : ∀ q : Nat, j kc' ks' (ws ++ [(q, .inr (ci, fs))]) lv pc' (.ref q :: st)) : j kc ks ws lv pc st := by
  obtain ⟨p, e, s, m, args, below, meth, c, A, H0, Q, hx, hb, hml, hown, hts, hK, hA, hini, hret, rfl⟩ := cx
  obtain ⟨k1, k2, k3, k4⟩ := hk
  subst hp; subst k1; subst k2
  intro H locs ls g1 g2 g3 g4
  exact va_new hx hb hts hin ty hty hown (hts _ hcl) (hts _ hinst) (hts _ hini') hK.1 g1 g2 g3 hA hc hfs k3 k4 hdg (fun q H1 b1 b2 b3 => h q H1 locs ls b1 b2 b3 g4)
/-- two array classes of one component type are one -/
theorem jw_ac {s : State} {c1 c2 : ClassId} {ty : FieldType} (hty : refKind ty = false) (h1 : va_RA s c1 ty) (h2 : va_RA s c2 ty) : c1 = c2 := by
  cases ty <;> first | exact Option.some.inj (h1.symm.trans h2) | cases hty
theorem j_newa (cx : Cx l cc own nL R G ret P mc ms ini j) {atype : ArrayType} {ty : FieldType} (harr : Cond.arrayClass (newarray.typeOf atype) ∈ BG) (hty : newarray.typeOf atype = ty) (hpr : refKind ty = false) (t0 : Nat) {cA : ClassId} (ht : G.2[t0]? = some (cA, ty)) {n : Int32} {N' : Nat} {f0 : Nat → Int32} (ha : ∀ cA : ClassId, vp_cell cA (N', .inl f0) = arrV cA N' (fun _ => defaultValue ty)) (hn : ¬ n < 0) (hN : n.toNatClampNeg = N') (hbytes : N' * componentBytes ty ≤ 536870912) {kc' ks' : Nat} (hk : kc + 1 = kc' ∧ ks + N' = ks' ∧ kc' ≤ R.cells ∧ ks' ≤ R.slots) (hdg : decode cc pc = .ok (.newarray atype, 2)) (hp : pc + 2 = pc') (h : ∀ q : Nat, j kc' ks' (ws ++ [(q, .inl (cA, N', .inl f0))]) lv pc' (.ref q :: st)) : j kc ks ws lv pc (.int n :: st) := by
  obtain ⟨p, e, s, m, args, below, meth, c, A, H0, Q, hx, hb, hml, hown, hts, hK, hA, hini, hret, rfl⟩ := cx
  obtain ⟨k1, k2, k3, k4⟩ := hk
  subst hp; subst k1; subst k2
  intro H locs ls g1 g2 g3 g4
  refine va_newa hx hb (hts _ harr) hty hK.1 g1 g2 g3 hA ha hn hN hbytes k3 k4 hdg (fun q cB H1 b0 b1 b2 b3 => ?_)
  have e1 : (G.2 ++ [(cB, ty)])[G.2.length]? = some (cB, ty) := by simp
  have e2 : cA = cB := jw_ac hpr (hK.1.2 t0 _ ht).2 (b0.2 _ _ e1).2
  subst e2
  exact h q H1 locs ls b1 b2 b3 g4
theorem j_newq (cx : Cx l cc own nL R G ret P mc ms ini j) {index : Nat} (hcl : Cond.classLink own index "CarpetCrosses$State" ∈ BG) (t0 : Nat) {cA : ClassId} (ht : G.2[t0]? = some (cA, .object "CarpetCrosses$State")) {n : Int32} {N' : Nat} (hn : ¬ n < 0) (hN : n.toNatClampNeg = N') (hbytes : N' * 4 ≤ 536870912) {kc' ks' : Nat} (hk : kc + 1 = kc' ∧ ks + N' = ks' ∧ kc' ≤ R.cells ∧ ks' ≤ R.slots) (hdg : decode cc pc = .ok (.anewarray index, 3)) (hp : pc + 3 = pc') (h : ∀ q : Nat, j kc' ks' (ws ++ [(q, .inl (cA, N', .inr (.inr (.inr (.inr (fun _ => none))))))]) lv pc' (.ref q :: st)) : j kc ks ws lv pc (.int n :: st) := by
  obtain ⟨p, e, s, m, args, below, meth, c, A, H0, Q, hx, hb, hml, hown, hts, hK, hA, hini, hret, rfl⟩ := cx
  obtain ⟨k1, k2, k3, k4⟩ := hk
  subst hp; subst k1; subst k2
  intro H locs ls g1 g2 g3 g4
  refine va_newq hx hb hown (hts _ hcl) hK.2 hK.1 g1 g2 g3 hA hn hN hbytes k3 k4 hdg (fun q cB H1 b0 b1 b2 b3 => ?_)
  have e1 : (G.2 ++ [(cB, FieldType.object "CarpetCrosses$State")])[G.2.length]? = some (cB, .object "CarpetCrosses$State") := by simp
  have e2 : cA = cB := by
    obtain ⟨_, _, -, -, -, z1⟩ := (hK.1.2 t0 _ ht).2
    obtain ⟨_, _, -, -, -, z2⟩ := (b0.2 _ _ e1).2
    exact Option.some.inj (z1.symm.trans z2)
  subst e2
  exact h q H1 locs ls b1 b2 b3 g4
end JRULES
/-- a method's contract: from the cells pre and the arguments av it returns; its answer and cells behind it are of P -/
def jw_Q (P : Option Value → va_W → Prop) (G : JG) (pre : va_W) (sz : Nat) : Array Value → State → Outcome → State → Prop := fun _ st oc t =>
  (∃ (v : Option Value) (w : va_W), oc = .returned v ∧ P v w ∧ va_P G.1 vwCl w t.heap ∧ va_D (va_A pre sz) w) ∧ va_F (va_A pre sz) st t
def Ct (l : Launch) (y : MethodName) (cc : ByteArray) (nL : Nat) (ret : Option FieldType) (rm : Room) (G : JG) (av : List Value) (pre : va_W) (P : Option Value → va_W → Prop) (mc ms : Nat) : Prop :=
  ∀ sz : Nat, Met l y (Cond.code y cc nL ret :: BG) rm (va_Pc av (fun U => U.heap.size = sz ∧ va_P G.1 vwCl pre U.heap ∧ KK G U ∧ va_D (fun _ => True) pre)) (jw_Q P G pre sz) mc ms (va_A pre sz)
abbrev jw_P (v0 : Option Value) (w0 : va_W) : Option Value → va_W → Prop := fun v w => v = v0 ∧ w = w0
theorem ct_of {l : Launch} {y : MethodName} {cc : ByteArray} {nL : Nat} {ret : Option FieldType} {rm : Room} {G : JG} {av : List Value} {pre : va_W} {P : Option Value → va_W → Prop} {mc ms : Nat} (own : String) (hy : plainName y.cls = true) (hown : y.cls = own) (hlen : (lg_sl av).length ≤ nL)
    (body : ∀ j : JT, Cx l cc own nL rm G ret P mc ms (decide (y.name = "<init>")) j → j 0 0 pre (lv_args 0 av) 0 []) : Ct l y cc nL ret rm G av pre P mc ms := by
  intro sz
  refine Met.ofW (cc := cc) (maxL := nL) (ret := ret) hy rfl ?_
  intro p e s m args below meth c s₁ B hml hv
  obtain ⟨rfl, hsz, hP, hK, hD0⟩ := hv
  have hx := B.exec
  have hb := B.bytes
  have hr := B.returns
  have hts := atoms_spec (ws := Cond.code y cc nL ret :: BG) B.pre
  have how : s.vm.findClass own = some m.cls := hown ▸ findClass_of_methodNamed B.named
  have hlocks := B.notSynchronized
  have hin : meth.name = y.name := (name_of_methodNamed B.named B.method).1
  subst hsz
  have hD := hD0.self (sz := s.heap.size)
  have hl := lv_entry av (n := nL) hlen
  rw [lg_entry_eq]
  refine body _ ⟨p, e, s, m, av.toArray, below, meth, c, va_A pre s.heap.size, s.heap, MQ below (jw_Q P G pre s.heap.size) av.toArray s mc ms (va_A pre s.heap.size), hx, hb, hml, how, fun w h => hts w (List.mem_cons_of_mem _ h), hK, fun q h => Or.inr h, fun h => by rw [hin]; exact of_decide_eq_true h, ?_, rfl⟩ _ [] _ hP hD va_S.rf hl
  intro v ws pc st H locs ls hPv hj h1 h2 h3
  have hq : ∀ t : State, t.heap = H → s.WarmedH t.vm → jw_Q P G pre s.heap.size av.toArray s (.returned v) t := fun t ht _ => ⟨⟨v, ws, rfl, hPv, by rw [ht]; exact h1, h2⟩, h3.F ht⟩
  rcases hj with ⟨rfl, hd, rfl, rfl⟩ | ⟨ty, x, rfl, hn, hd, rfl, rfl⟩ | ⟨ty, a, rfl, hd, rfl, rfl⟩
  · exact W.vret hx hb hr hq h3.2.2 hd hlocks
  · exact W.zret hx hb hr hn hq h3.2.2 hd hlocks
  · exact W.aret hx hb hr (Or.inr ⟨ty, rfl⟩) (Or.inr ⟨a, rfl⟩) hq h3.2.2 hd hlocks
theorem jw_call {p : Program} {l : Launch} {e : Env} {R : Room} {s : State} {m : MethodId} {args : Array Value} {below : List Frame} {meth : Method} {c : Code} {H H0 : Heap} {locs : List Loc} {kc ks mc ms pc : Nat} {ls : Array Slot} {st0 rest : List Value} {G : JG} {pre : va_W} {P : Option Value → va_W → Prop} {av : Array Value} {A : Nat → Prop} {Q : State → Prop}
    (hr : va_Run p l e R s m args below meth c H locs kc ks mc ms (F0 m pc ls st0) rest (jw_Q P G pre H.size av) (va_A pre H.size)) (hS : va_S A H0 H locs) (hf : ∀ q, va_A pre H.size q → A q)
    (kk : ∀ (v : Option Value) (w : va_W) (H1 : Heap) (locs1 : List Loc), P v w → va_P G.1 vwCl w H1 → va_D (va_A pre H.size) w → (∀ q : Nat, q < H.size → ¬ va_A pre H.size q → H1[q]? = H[q]?) → va_S A H0 H1 locs1 → W p l e R s m args below meth c H1 locs1 (kc + mc) (ks + ms) Q (F0 m (pc + 3) ls (v.toList ++ rest))) : W p l e R s m args below meth c H locs kc ks Q (F0 m pc ls st0) := by
  intro T hT X
  obtain ⟨v, st₀, t, T', L, h0, X', hL, e1, e2, ⟨⟨v', w, hv, hp, hb, hd⟩, hz, hk⟩, hst⟩ := hr T hT X
  cases hv
  rw [h0] at hz hk
  obtain ⟨t2, a1, b1⟩ := kk _ w T'.heap (locs ++ L) hp (by rw [e1]; exact hb) hd (fun q h1 h2 => by rw [e1]; exact hk q h1 h2)
    ⟨Nat.le_trans hS.1 (by rw [e1]; exact hz), fun q h1 h2 => by rw [e1, hk q (Nat.lt_of_lt_of_le h1 hS.1) (fun z => h2 (hf q z))]; exact hS.2.1 q h1 h2, fun q hq => by
      rcases List.mem_append.mp hq with h | h
      · exact hS.2.2 q h
      · exact hf _ (hL q h)⟩ T' rfl X'
  exact ⟨t2, hst t2 a1, b1⟩
/-- what is to be said of a name: its descriptor has n parameters; it is plain -/
def jw_y (y : MethodName) (n : Nat) : Prop := y.cls ≠ "java/lang/invoke/MethodHandle" ∧ y.cls ≠ "java/lang/invoke/VarHandle" ∧ (parseMethodDescriptor y.desc).map (fun d => d.parameters.length) = some n
theorem jw_good {w : Cond} (h : w ∈ BG) : GoodIn BG (w :: BG) := fun u hu => by
  have hm : u ∈ BG := by
    rcases List.mem_cons.mp hu with rfl | h1
    · exact h
    · exact h1
  exact ⟨hm, good_of_word (BG_good u hm)⟩
theorem jw_blind {G : JG} {av : List Value} {pre : va_W} {sz : Nat} : FrameBlind (va_Pc av (fun U => U.heap.size = sz ∧ va_P G.1 vwCl pre U.heap ∧ KK G U ∧ va_D (fun _ => True) pre)) := fun a U g mk q => by
  obtain ⟨q0, q1, qP, qK, qD⟩ := q
  exact ⟨q0, q1, qP, KK.moved (u := U) (U := U.calling g mk a) (Vm.Alike.refl U.vm) qK, qD⟩
section JCALLS
variable {l : Launch} {cc : ByteArray} {own : String} {nL : Nat} {R : Room} {G : JG} {ret : Option FieldType} {P : Option Value → va_W → Prop} {mc ms : Nat} {ini : Bool} {j : JT}
variable {kc ks : Nat} {ws : va_W} {lv : List (Nat × Value)} {pc pc' : Nat} {st : List Value}
variable {y : MethodName} {bytes : ByteArray} {maxL : Nat} {yret : Option FieldType} {rm : Room} {As rest : List Value} {b : Nat} {pre : va_W} {P1 : Option Value → va_W → Prop} {mc1 ms1 index : Nat}
theorem j_runV (cx : Cx l cc own nL R G ret P mc ms ini j) (hc : Ct l y bytes maxL yret rm G (.ref b :: As) pre P1 mc1 ms1) (n : Nat) (hy : jw_y y n) (hlink : Cond.methodLink own index y ∈ BG) (hw : Cond.instanceMethod y ∈ BG ∧ Cond.selects y.cls y y ∈ BG ∧ Cond.initialized y.cls ∈ BG ∧ Cond.code y bytes maxL yret ∈ BG)
    (hR : rm.cells = mc1 ∧ rm.slots = ms1 ∧ rm.frames + 1 ≤ R.frames ∧ 8 + (maxL + 11) + rm.locals ≤ R.locals ∧ kc + mc1 ≤ R.cells ∧ ks + ms1 ≤ R.slots)
    (isC isR : List Nat) (hC : isC.map (fun i => ws[i]?) = pre.map some) {wr : va_W} (hr : isR.map (fun i => ws[i]?) = wr.map some) (hnd : va_nd isC = true ∧ va_nd isR = true ∧ ∀ i ∈ isR, i ∉ isC)
    (q0 ci : Nat) {fs : List Value} {q : vw_C} (hcl : vwCl[ci]? = some q) (hq : q.1 = y.cls) (he : ws[q0]? = some (b, .inr (ci, fs))) (hn : As.length = n) (hst : st = As.reverse ++ .ref b :: rest) (hW : (rest.map fun v => v.category).sum ≤ 8) (hdg : decode cc pc = .ok (.invokevirtual index, 3)) (hp : pc + 3 = pc')
    (h : ∀ (v : Option Value) (w : va_W), P1 v w → j (kc + mc1) (ks + ms1) (wr ++ w) lv pc' (v.toList ++ rest)) : j kc ks ws lv pc st := by
  obtain ⟨p, e, s, m, args, below, meth, c, A, H0, Q, hx, hb, hml, hown, hts, hK, hA, hini, hret, rfl⟩ := cx
  obtain ⟨r1, r2, r3, r4, r5, r6⟩ := hR
  subst hp; subst hst
  intro H locs ls g1 g2 g3 g4
  have hPc := g1.sub isC (j_fm hC)
  have hDc := g2.sub isC hnd.1 hC
  have hFc := va_free (wc := pre) g2 g3 hA isC hC
  have cB := callB_of (Ts := BG) (R := R) (s := s) (args := args) (own := own) (index := index) (bytes := bytes) (maxL := maxL) (ret := yret) (ws := Cond.code y bytes maxL yret :: BG) (rm := rm) n hts (jw_good hw.2.2.2) rfl r1 r2 (hts _ hw.2.2.1) (hts _ hlink) hy ⟨r3, r4⟩
  refine jw_call (va_runV (As := As) (rest := rest) ⟨hx, hb, hml, hown, hts⟩ (hc H.size) ⟨cB, hts _ hw.1, hts _ hw.2.1⟩ ⟨jw_blind, hq ▸ va_recv hK.1 g1 hcl he, fun U hU hW => ⟨rfl, by rw [hU], by rw [hU]; exact hPc, hK.moved hW.alike, hDc.weaken (fun _ _ _ _ => trivial)⟩⟩ rfl hn g4.1 rfl (lv_room hW) hdg ⟨r5, r6⟩) g3 hFc (fun v w H1 locs1 b1 b2 b3 b4 b5 => ?_)
  obtain ⟨hP, hD⟩ := va_join (wr := wr) (w1 := w) g1 g2 isC isR hC hr hnd.2.1 hnd.2.2 b4 hFc b2 b3
  exact h v w b1 H1 locs1 ls hP hD b5 g4
theorem j_runS (cx : Cx l cc own nL R G ret P mc ms ini j) (hc : Ct l y bytes maxL yret rm G As pre P1 mc1 ms1) (n : Nat) (hy : jw_y y n) (hlink : Cond.methodLink own index y ∈ BG) (hw : Cond.static y ∈ BG ∧ Cond.initialized y.cls ∈ BG ∧ Cond.code y bytes maxL yret ∈ BG)
    (hR : rm.cells = mc1 ∧ rm.slots = ms1 ∧ rm.frames + 1 ≤ R.frames ∧ 8 + (maxL + 11) + rm.locals ≤ R.locals ∧ kc + mc1 ≤ R.cells ∧ ks + ms1 ≤ R.slots)
    (isC isR : List Nat) (hC : isC.map (fun i => ws[i]?) = pre.map some) {wr : va_W} (hr : isR.map (fun i => ws[i]?) = wr.map some) (hnd : va_nd isC = true ∧ va_nd isR = true ∧ ∀ i ∈ isR, i ∉ isC)
    (hn : As.length = n) (hst : st = As.reverse ++ rest) (hW : (rest.map fun v => v.category).sum ≤ 8) (hdg : decode cc pc = .ok (.invokestatic index, 3)) (hp : pc + 3 = pc')
    (h : ∀ (v : Option Value) (w : va_W), P1 v w → j (kc + mc1) (ks + ms1) (wr ++ w) lv pc' (v.toList ++ rest)) : j kc ks ws lv pc st := by
  obtain ⟨p, e, s, m, args, below, meth, c, A, H0, Q, hx, hb, hml, hown, hts, hK, hA, hini, hret, rfl⟩ := cx
  obtain ⟨r1, r2, r3, r4, r5, r6⟩ := hR
  subst hp; subst hst
  intro H locs ls g1 g2 g3 g4
  have hPc := g1.sub isC (j_fm hC)
  have hDc := g2.sub isC hnd.1 hC
  have hFc := va_free (wc := pre) g2 g3 hA isC hC
  have cB := callB_of (Ts := BG) (R := R) (s := s) (args := args) (own := own) (index := index) (bytes := bytes) (maxL := maxL) (ret := yret) (ws := Cond.code y bytes maxL yret :: BG) (rm := rm) n hts (jw_good hw.2.2) rfl r1 r2 (hts _ hw.2.1) (hts _ hlink) hy ⟨r3, r4⟩
  refine jw_call (va_runS (As := As) (rest := rest) ⟨hx, hb, hml, hown, hts⟩ (hc H.size) ⟨cB, hts _ hw.1⟩ ⟨jw_blind, fun U hU hW => ⟨rfl, by rw [hU], by rw [hU]; exact hPc, hK.moved hW.alike, hDc.weaken (fun _ _ _ _ => trivial)⟩⟩ rfl hn g4.1 rfl (lv_room hW) hdg ⟨r5, r6⟩) g3 hFc (fun v w H1 locs1 b1 b2 b3 b4 b5 => ?_)
  obtain ⟨hP, hD⟩ := va_join (wr := wr) (w1 := w) g1 g2 isC isR hC hr hnd.2.1 hnd.2.2 b4 hFc b2 b3
  exact h v w b1 H1 locs1 ls hP hD b5 g4
theorem j_runI (cx : Cx l cc own nL R G ret P mc ms ini j) (hc : Ct l y bytes maxL none rm G (.ref b :: As) pre P1 mc1 ms1) (n : Nat) (hy : jw_y y n) (hy1 : y.name = "<init>") (hlink : Cond.methodLink own index y ∈ BG) (hw : Cond.instanceMethod y ∈ BG ∧ Cond.initialized y.cls ∈ BG ∧ Cond.code y bytes maxL none ∈ BG)
    (hR : rm.cells = mc1 ∧ rm.slots = ms1 ∧ rm.frames + 1 ≤ R.frames ∧ 8 + (maxL + 11) + rm.locals ≤ R.locals ∧ kc + mc1 ≤ R.cells ∧ ks + ms1 ≤ R.slots)
    (isC isR : List Nat) (hC : isC.map (fun i => ws[i]?) = pre.map some) {wr : va_W} (hr : isR.map (fun i => ws[i]?) = wr.map some) (hnd : va_nd isC = true ∧ va_nd isR = true ∧ ∀ i ∈ isR, i ∉ isC)
    (hn : As.length = n) (hst : st = As.reverse ++ .ref b :: rest) (hW : (rest.map fun v => v.category).sum ≤ 8) (hdg : decode cc pc = .ok (.invokespecial index, 3)) (hp : pc + 3 = pc')
    (h : ∀ (v : Option Value) (w : va_W), P1 v w → j (kc + mc1) (ks + ms1) (wr ++ w) lv pc' (v.toList ++ rest)) : j kc ks ws lv pc st := by
  obtain ⟨p, e, s, m, args, below, meth, c, A, H0, Q, hx, hb, hml, hown, hts, hK, hA, hini, hret, rfl⟩ := cx
  obtain ⟨r1, r2, r3, r4, r5, r6⟩ := hR
  subst hp; subst hst
  intro H locs ls g1 g2 g3 g4
  have hPc := g1.sub isC (j_fm hC)
  have hDc := g2.sub isC hnd.1 hC
  have hFc := va_free (wc := pre) g2 g3 hA isC hC
  have cB := callB_of (Ts := BG) (R := R) (s := s) (args := args) (own := own) (index := index) (bytes := bytes) (maxL := maxL) (ret := none) (ws := Cond.code y bytes maxL none :: BG) (rm := rm) n hts (jw_good hw.2.2) rfl r1 r2 (hts _ hw.2.1) (hts _ hlink) hy ⟨r3, r4⟩
  refine jw_call (va_runI (As := As) (rest := rest) ⟨hx, hb, hml, hown, hts⟩ (hc H.size) ⟨cB, hy1, hts _ hw.1⟩ ⟨jw_blind, fun U hU hW => ⟨rfl, by rw [hU], by rw [hU]; exact hPc, hK.moved hW.alike, hDc.weaken (fun _ _ _ _ => trivial)⟩⟩ rfl hn g4.1 rfl (lv_room hW) hdg ⟨r5, r6⟩) g3 hFc (fun v w H1 locs1 b1 b2 b3 b4 b5 => ?_)
  obtain ⟨hP, hD⟩ := va_join (wr := wr) (w1 := w) g1 g2 isC isR hC hr hnd.2.1 hnd.2.2 b4 hFc b2 b3
  exact h v w b1 H1 locs1 ls hP hD b5 g4
/-- the calls whose answer is known: the cells behind them in the caller's order -/
theorem j_cV (cx : Cx l cc own nL R G ret P mc ms ini j) {v0 : Option Value} {post : va_W} (hc : Ct l y bytes maxL yret rm G (.ref b :: As) pre (jw_P v0 post) 0 0) (n : Nat) (hy : jw_y y n) (hlink : Cond.methodLink own index y ∈ BG) (hw : Cond.instanceMethod y ∈ BG ∧ Cond.selects y.cls y y ∈ BG ∧ Cond.initialized y.cls ∈ BG ∧ Cond.code y bytes maxL yret ∈ BG)
    (hR : rm.cells = 0 ∧ rm.slots = 0 ∧ rm.frames + 1 ≤ R.frames ∧ 8 + (maxL + 11) + rm.locals ≤ R.locals ∧ kc + 0 ≤ R.cells ∧ ks + 0 ≤ R.slots)
    (isC isR isB : List Nat) (hC : isC.map (fun i => ws[i]?) = pre.map some) (wr : va_W) (hr : isR.map (fun i => ws[i]?) = wr.map some) (hnd : va_nd isC = true ∧ va_nd isR = true ∧ ∀ i ∈ isR, i ∉ isC) (ws' : va_W) (hB : isB.map (fun i => (wr ++ post)[i]?) = ws'.map some) (hnB : va_nd isB = true)
    (q0 ci : Nat) {fs : List Value} {q : vw_C} (hcl : vwCl[ci]? = some q) (hq : q.1 = y.cls) (he : ws[q0]? = some (b, .inr (ci, fs))) (hn : As.length = n) (hst : st = As.reverse ++ .ref b :: rest) (hW : (rest.map fun v => v.category).sum ≤ 8) (hdg : decode cc pc = .ok (.invokevirtual index, 3)) (hp : pc + 3 = pc')
    (h : j kc ks ws' lv pc' (v0.toList ++ rest)) : j kc ks ws lv pc st := by
  refine j_runV cx hc n hy hlink hw hR isC isR hC hr hnd q0 ci hcl hq he hn hst hW hdg hp (fun v w hv => ?_)
  obtain ⟨rfl, rfl⟩ := hv
  exact j_ws cx isB hnB hB h
theorem j_cS (cx : Cx l cc own nL R G ret P mc ms ini j) {v0 : Option Value} {post : va_W} (hc : Ct l y bytes maxL yret rm G As pre (jw_P v0 post) 0 0) (n : Nat) (hy : jw_y y n) (hlink : Cond.methodLink own index y ∈ BG) (hw : Cond.static y ∈ BG ∧ Cond.initialized y.cls ∈ BG ∧ Cond.code y bytes maxL yret ∈ BG)
    (hR : rm.cells = 0 ∧ rm.slots = 0 ∧ rm.frames + 1 ≤ R.frames ∧ 8 + (maxL + 11) + rm.locals ≤ R.locals ∧ kc + 0 ≤ R.cells ∧ ks + 0 ≤ R.slots)
    (isC isR isB : List Nat) (hC : isC.map (fun i => ws[i]?) = pre.map some) (wr : va_W) (hr : isR.map (fun i => ws[i]?) = wr.map some) (hnd : va_nd isC = true ∧ va_nd isR = true ∧ ∀ i ∈ isR, i ∉ isC) (ws' : va_W) (hB : isB.map (fun i => (wr ++ post)[i]?) = ws'.map some) (hnB : va_nd isB = true)
    (hn : As.length = n) (hst : st = As.reverse ++ rest) (hW : (rest.map fun v => v.category).sum ≤ 8) (hdg : decode cc pc = .ok (.invokestatic index, 3)) (hp : pc + 3 = pc')
    (h : j kc ks ws' lv pc' (v0.toList ++ rest)) : j kc ks ws lv pc st := by
  refine j_runS cx hc n hy hlink hw hR isC isR hC hr hnd hn hst hW hdg hp (fun v w hv => ?_)
  obtain ⟨rfl, rfl⟩ := hv
  exact j_ws cx isB hnB hB h
end JCALLS
theorem kb_m100 : (Int8.ofInt (-100)).toInt32 = ((-100) : Int32) := by decide +kernel
theorem kb_m5 : (Int8.ofInt (-5)).toInt32 = ((-5) : Int32) := by decide +kernel
theorem kb_m4 : (Int8.ofInt (-4)).toInt32 = ((-4) : Int32) := by decide +kernel
theorem kb_m3 : (Int8.ofInt (-3)).toInt32 = ((-3) : Int32) := by decide +kernel
theorem kb_m2 : (Int8.ofInt (-2)).toInt32 = ((-2) : Int32) := by decide +kernel
theorem kb_6 : (Int8.ofInt 6).toInt32 = (6 : Int32) := by decide +kernel
theorem kb_9 : (Int8.ofInt 9).toInt32 = (9 : Int32) := by decide +kernel
theorem kb_10 : (Int8.ofInt 10).toInt32 = (10 : Int32) := by decide +kernel
theorem kb_14 : (Int8.ofInt 14).toInt32 = (14 : Int32) := by decide +kernel
theorem kb_15 : (Int8.ofInt 15).toInt32 = (15 : Int32) := by decide +kernel
theorem kb_24 : (Int8.ofInt 24).toInt32 = (24 : Int32) := by decide +kernel
theorem kb_25 : (Int8.ofInt 25).toInt32 = (25 : Int32) := by decide +kernel
theorem kb_26 : (Int8.ofInt 26).toInt32 = (26 : Int32) := by decide +kernel
theorem kb_30 : (Int8.ofInt 30).toInt32 = (30 : Int32) := by decide +kernel
theorem kb_32 : (Int8.ofInt 32).toInt32 = (32 : Int32) := by decide +kernel
theorem kb_43 : (Int8.ofInt 43).toInt32 = (43 : Int32) := by decide +kernel
theorem kb_45 : (Int8.ofInt 45).toInt32 = (45 : Int32) := by decide +kernel
theorem kb_48 : (Int8.ofInt 48).toInt32 = (48 : Int32) := by decide +kernel
theorem kb_57 : (Int8.ofInt 57).toInt32 = (57 : Int32) := by decide +kernel
theorem kb_59 : (Int8.ofInt 59).toInt32 = (59 : Int32) := by decide +kernel
theorem kb_60 : (Int8.ofInt 60).toInt32 = (60 : Int32) := by decide +kernel
theorem kb_64 : (Int8.ofInt 64).toInt32 = (64 : Int32) := by decide +kernel
theorem kb_107 : (Int8.ofInt 107).toInt32 = (107 : Int32) := by decide +kernel
theorem kb_116 : (Int8.ofInt 116).toInt32 = (116 : Int32) := by decide +kernel
theorem ki_m1 : Int32.ofInt (-1) = ((-1) : Int32) := by decide +kernel
theorem ki_0 : Int32.ofInt 0 = (0 : Int32) := by decide +kernel
theorem ki_1 : Int32.ofInt 1 = (1 : Int32) := by decide +kernel
theorem ki_2 : Int32.ofInt 2 = (2 : Int32) := by decide +kernel
theorem ki_3 : Int32.ofInt 3 = (3 : Int32) := by decide +kernel
theorem ki_4 : Int32.ofInt 4 = (4 : Int32) := by decide +kernel
theorem ki_5 : Int32.ofInt 5 = (5 : Int32) := by decide +kernel
theorem kl_4 : Int32.ofNat 4 = (4 : Int32) := by decide +kernel
theorem kn_m1 (x : Int32) : x + Int32.ofInt (-1) = x + (-1) := by rw [show Int32.ofInt (-1) = ((-1) : Int32) from by decide +kernel]
theorem kn_1 (x : Int32) : x + Int32.ofInt 1 = x + 1 := by rw [show Int32.ofInt 1 = (1 : Int32) from by decide +kernel]
theorem ks_149 : (Int16.ofInt 149).toInt32 = (149 : Int32) := by decide +kernel
theorem ks_150 : (Int16.ofInt 150).toInt32 = (150 : Int32) := by decide +kernel
theorem ks_348 : (Int16.ofInt 348).toInt32 = (348 : Int32) := by decide +kernel
theorem ks_464 : (Int16.ofInt 464).toInt32 = (464 : Int32) := by decide +kernel
theorem ks_600 : (Int16.ofInt 600).toInt32 = (600 : Int32) := by decide +kernel
theorem kz_2 : ¬ (2 : Int32) = 0 := by decide +kernel
theorem kz_4 : ¬ (4 : Int32) = 0 := by decide +kernel
theorem kz_6 : ¬ (6 : Int32) = 0 := by decide +kernel
theorem kz_10 : ¬ (10 : Int32) = 0 := by decide +kernel
theorem kz_15 : ¬ (15 : Int32) = 0 := by decide +kernel
abbrev TY (cI cZ cC cS : ClassId) : List (ClassId × FieldType) := [(cI, .int), (cZ, .boolean), (cC, .char), (cS, .object "CarpetCrosses$State")]
theorem se_l {α β γ : Type} {f : α → γ} {g : β → γ} {a : α} {r : γ} (h : Sum.elim f g (.inl a) = r) : f a = r := h
theorem se_r {α β γ : Type} {f : α → γ} {g : β → γ} {b : β} {r : γ} (h : Sum.elim f g (.inr b) = r) : g b = r := h
theorem nz_n {x : Int32} (h : x = 0 ∨ x = 1) : narrow .boolean (.int x) = .int x := by
  rcases h with rfl | rfl <;> decide +kernel
theorem nz_f {x : Int32} (h : x = 0 ∨ x = 1) : fits .boolean (.int x) = true := by
  rcases h with rfl | rfl <;> decide +kernel
theorem nc_f {x : Int32} (h : 0 ≤ x ∧ x ≤ 65535) : fits .char (.int x) = true := by
  show (decide ((0 : Int32) ≤ x) && decide (x ≤ 65535)) = true
  rw [decide_eq_true h.1, decide_eq_true h.2]; rfl
theorem nc_n {x : Int32} (h : 0 ≤ x ∧ x ≤ 65535) : narrow .char (.int x) = .int x := by
  show Value.int x.toUInt32.toUInt16.toUInt32.toInt32 = .int x
  have h1 : 0 ≤ x.toInt := by have := Int32.le_iff_toInt_le.mp h.1; simpa using this
  have h2 : x.toInt ≤ 65535 := by
    have := Int32.le_iff_toInt_le.mp h.2
    rwa [show (65535 : Int32).toInt = 65535 from by decide +kernel] at this
  refine congrArg Value.int (Int32.toBitVec_inj.mp (BitVec.eq_of_toNat_eq ?_))
  have e1 : x.toBitVec.toNat = x.toInt.toNat := by
    have e2 : x.toInt = x.toBitVec.toInt := rfl
    rw [e2] at h1 h2 ⊢
    have := BitVec.toInt_eq_toNat_cond x.toBitVec
    split at this <;> omega
  have e3 : x.toBitVec.toNat ≤ 65535 := by omega
  show ((x.toBitVec.setWidth 16).setWidth 32).toNat = x.toBitVec.toNat
  simp only [BitVec.toNat_setWidth]
  omega
theorem jw_lk {x v : Int32} (h : x = v) {ps : List (Int × Int)} {d off : Int} (ho : Op.lookupswitch.offset ps d v.toInt = off) : Op.lookupswitch.offset ps d x.toInt = off := by rw [h]; exact ho
theorem jw_ne3 {x v : Int32} {n : Int} (h : ¬ x = v) (e : v.toInt = n) : ¬ n = x.toInt := fun q => h (Int32.toInt_inj.mp (by rw [e, q]))
theorem yk_X0_shifted : jw_y yX0_shifted 3 := by unfold jw_y; decide +kernel
theorem yk_X0_beside : jw_y yX0_beside 2 := by unfold jw_y; decide +kernel
theorem yk_X0_turnedByHalf : jw_y yX0_turnedByHalf 1 := by unfold jw_y; decide +kernel
theorem yk_X0_opposite : jw_y yX0_opposite 1 := by unfold jw_y; decide +kernel
theorem yk_X1_layOut : jw_y yX1_layOut 0 := by unfold jw_y; decide +kernel
theorem yk_X1_init : jw_y yX1_init 0 := by unfold jw_y; decide +kernel
theorem yk_X1_ownerOf : jw_y yX1_ownerOf 1 := by unfold jw_y; decide +kernel
theorem yk_X1_partOn : jw_y yX1_partOn 1 := by unfold jw_y; decide +kernel
theorem yk_X1_isFree : jw_y yX1_isFree 1 := by unfold jw_y; decide +kernel
theorem yk_X1_hasArmOfOther : jw_y yX1_hasArmOfOther 2 := by unfold jw_y; decide +kernel
theorem yk_X4_colourTowards : jw_y yX4_colourTowards 3 := by unfold jw_y; decide +kernel
theorem yk_X1_colourShown : jw_y yX1_colourShown 2 := by unfold jw_y; decide +kernel
theorem yk_X1_coloursClash : jw_y yX1_coloursClash 2 := by unfold jw_y; decide +kernel
theorem yk_X1_wouldClash : jw_y yX1_wouldClash 4 := by unfold jw_y; decide +kernel
theorem yk_X1_hasClash : jw_y yX1_hasClash 0 := by unfold jw_y; decide +kernel
theorem yk_X1_isFreeFor : jw_y yX1_isFreeFor 2 := by unfold jw_y; decide +kernel
theorem yk_X1_whyNot : jw_y yX1_whyNot 4 := by unfold jw_y; decide +kernel
theorem yk_X1_layCross : jw_y yX1_layCross 3 := by unfold jw_y; decide +kernel
theorem yk_X1_takeAway : jw_y yX1_takeAway 1 := by unfold jw_y; decide +kernel
theorem yk_X1_turnFurther : jw_y yX1_turnFurther 2 := by unfold jw_y; decide +kernel
theorem yk_X1_moveTo : jw_y yX1_moveTo 2 := by unfold jw_y; decide +kernel
theorem yk_X1_shiftAll : jw_y yX1_shiftAll 2 := by unfold jw_y; decide +kernel
theorem yk_X4_setColour : jw_y yX4_setColour 3 := by unfold jw_y; decide +kernel
theorem yk_X1_paintArms : jw_y yX1_paintArms 2 := by unfold jw_y; decide +kernel
theorem yk_X2_init : jw_y yX2_init 0 := by unfold jw_y; decide +kernel
theorem yk_X2_append : jw_y yX2_append 1 := by unfold jw_y; decide +kernel
theorem yk_X2_empty : jw_y yX2_empty 0 := by unfold jw_y; decide +kernel
theorem yk_X2_length : jw_y yX2_length 0 := by unfold jw_y; decide +kernel
theorem yk_X2_rewind : jw_y yX2_rewind 0 := by unfold jw_y; decide +kernel
theorem yk_X2_digitAhead : jw_y yX2_digitAhead 0 := by unfold jw_y; decide +kernel
theorem yk_X2_readDigit : jw_y yX2_readDigit 1 := by unfold jw_y; decide +kernel
theorem yk_X2_readSign : jw_y yX2_readSign 1 := by unfold jw_y; decide +kernel
theorem yk_X2_readCellNumber : jw_y yX2_readCellNumber 0 := by unfold jw_y; decide +kernel
theorem yk_X2_readOrder : jw_y yX2_readOrder 0 := by unfold jw_y; decide +kernel
theorem yk_X2_readSeparator : jw_y yX2_readSeparator 0 := by unfold jw_y; decide +kernel
theorem yk_X2_countOrders : jw_y yX2_countOrders 0 := by unfold jw_y; decide +kernel
theorem yk_X2_isFaulty : jw_y yX2_isFaulty 0 := by unfold jw_y; decide +kernel
theorem yk_X2_position : jw_y yX2_position 0 := by unfold jw_y; decide +kernel
theorem yk_X2_sort : jw_y yX2_sort 0 := by unfold jw_y; decide +kernel
theorem yk_X2_kind : jw_y yX2_kind 0 := by unfold jw_y; decide +kernel
theorem yk_X2_turns : jw_y yX2_turns 0 := by unfold jw_y; decide +kernel
theorem yk_X2_cellNumber : jw_y yX2_cellNumber 0 := by unfold jw_y; decide +kernel
theorem yk_X2_colours : jw_y yX2_colours 0 := by unfold jw_y; decide +kernel
theorem yk_X3_init : jw_y yX3_init 0 := by unfold jw_y; decide +kernel
theorem yk_X3_count : jw_y yX3_count 0 := by unfold jw_y; decide +kernel
theorem yk_X3_dropOldest : jw_y yX3_dropOldest 0 := by unfold jw_y; decide +kernel
theorem yk_X4_copyFrom : jw_y yX4_copyFrom 1 := by unfold jw_y; decide +kernel
theorem yk_X3_add : jw_y yX3_add 1 := by unfold jw_y; decide +kernel
theorem yk_X3_takeLatest : jw_y yX3_takeLatest 1 := by unfold jw_y; decide +kernel
theorem yk_X4_init : jw_y yX4_init 0 := by unfold jw_y; decide +kernel
theorem yk_X4_colourOf : jw_y yX4_colourOf 2 := by unfold jw_y; decide +kernel
theorem yk_X5_init : jw_y yX5_init 0 := by unfold jw_y; decide +kernel
theorem yk_X5_freeCellsBeside : jw_y yX5_freeCellsBeside 1 := by unfold jw_y; decide +kernel
theorem yk_X5_touchesOfArm : jw_y yX5_touchesOfArm 2 := by unfold jw_y; decide +kernel
theorem yk_X5_touchesAt : jw_y yX5_touchesAt 2 := by unfold jw_y; decide +kernel
theorem yk_X5_neighboursOf : jw_y yX5_neighboursOf 1 := by unfold jw_y; decide +kernel
theorem yk_X5_armsThatTouchNone : jw_y yX5_armsThatTouchNone 1 := by unfold jw_y; decide +kernel
theorem yk_X5_waysToTurn : jw_y yX5_waysToTurn 1 := by unfold jw_y; decide +kernel
theorem yk_X5_touches : jw_y yX5_touches 0 := by unfold jw_y; decide +kernel
theorem yk_X5_likeTouchesOfArm : jw_y yX5_likeTouchesOfArm 2 := by unfold jw_y; decide +kernel
theorem yk_X5_touchesOfLikeColours : jw_y yX5_touchesOfLikeColours 0 := by unfold jw_y; decide +kernel
theorem yk_X5_crossesThatTouchNone : jw_y yX5_crossesThatTouchNone 0 := by unfold jw_y; decide +kernel
theorem yk_X5_forgetReached : jw_y yX5_forgetReached 0 := by unfold jw_y; decide +kernel
theorem yk_X5_reachRegion : jw_y yX5_reachRegion 2 := by unfold jw_y; decide +kernel
theorem yk_X5_countRegions : jw_y yX5_countRegions 1 := by unfold jw_y; decide +kernel
theorem yk_X5_greatestFreeRegion : jw_y yX5_greatestFreeRegion 0 := by unfold jw_y; decide +kernel
theorem yk_X5_countPlaces : jw_y yX5_countPlaces 1 := by unfold jw_y; decide +kernel
theorem yk_X5_placeOfMostTouches : jw_y yX5_placeOfMostTouches 1 := by unfold jw_y; decide +kernel
theorem yk_X5_looksLike : jw_y yX5_looksLike 3 := by unfold jw_y; decide +kernel
theorem yk_X5_comesUponItself : jw_y yX5_comesUponItself 2 := by unfold jw_y; decide +kernel
theorem yk_X5_countShifts : jw_y yX5_countShifts 0 := by unfold jw_y; decide +kernel
theorem yk_X5_firstShift : jw_y yX5_firstShift 2 := by unfold jw_y; decide +kernel
theorem yk_X6_init : jw_y yX6_init 0 := by unfold jw_y; decide +kernel
theorem yk_X6_isKind : jw_y yX6_isKind 1 := by unfold jw_y; decide +kernel
theorem yk_X6_isDirection : jw_y yX6_isDirection 1 := by unfold jw_y; decide +kernel
theorem yk_X6_beginChange : jw_y yX6_beginChange 0 := by unfold jw_y; decide +kernel
theorem yk_X6_endChange : jw_y yX6_endChange 1 := by unfold jw_y; decide +kernel
theorem yk_X6_paint : jw_y yX6_paint 3 := by unfold jw_y; decide +kernel
theorem yk_X6_setRule : jw_y yX6_setRule 1 := by unfold jw_y; decide +kernel
theorem yk_X6_isCell : jw_y yX6_isCell 1 := by unfold jw_y; decide +kernel
theorem yk_X6_lay : jw_y yX6_lay 3 := by unfold jw_y; decide +kernel
theorem yk_X6_isCross : jw_y yX6_isCross 1 := by unfold jw_y; decide +kernel
theorem yk_X6_take : jw_y yX6_take 1 := by unfold jw_y; decide +kernel
theorem yk_X6_turn : jw_y yX6_turn 2 := by unfold jw_y; decide +kernel
theorem yk_X6_move : jw_y yX6_move 2 := by unfold jw_y; decide +kernel
theorem yk_X6_shift : jw_y yX6_shift 2 := by unfold jw_y; decide +kernel
theorem yk_X6_layWithFewestTurns : jw_y yX6_layWithFewestTurns 2 := by unfold jw_y; decide +kernel
theorem yk_X6_fill : jw_y yX6_fill 1 := by unfold jw_y; decide +kernel
theorem yk_X6_type : jw_y yX6_type 1 := by unfold jw_y; decide +kernel
theorem yk_X6_clearText : jw_y yX6_clearText 0 := by unfold jw_y; decide +kernel
theorem yk_X6_carryOut : jw_y yX6_carryOut 0 := by unfold jw_y; decide +kernel
theorem yk_X6_perform : jw_y yX6_perform 0 := by unfold jw_y; decide +kernel
theorem yk_X6_undo : jw_y yX6_undo 0 := by unfold jw_y; decide +kernel
theorem yk_X6_keep : jw_y yX6_keep 0 := by unfold jw_y; decide +kernel
theorem yk_X6_restore : jw_y yX6_restore 0 := by unfold jw_y; decide +kernel
theorem yk_X6_colour : jw_y yX6_colour 2 := by unfold jw_y; decide +kernel
theorem yk_X6_cell : jw_y yX6_cell 2 := by unfold jw_y; decide +kernel
theorem yk_X6_cross : jw_y yX6_cross 2 := by unfold jw_y; decide +kernel
theorem yk_X6_total : jw_y yX6_total 1 := by unfold jw_y; decide +kernel
theorem yk_X6_reason : jw_y yX6_reason 3 := by unfold jw_y; decide +kernel
theorem yk_X6_places : jw_y yX6_places 1 := by unfold jw_y; decide +kernel
theorem yk_X6_bestPlace : jw_y yX6_bestPlace 2 := by unfold jw_y; decide +kernel
theorem yk_X6_shifts : jw_y yX6_shifts 1 := by unfold jw_y; decide +kernel
theorem yk_X6_halfTurn : jw_y yX6_halfTurn 0 := by unfold jw_y; decide +kernel
theorem yk_X7_middleOf : jw_y yX7_middleOf 1 := by unfold jw_y; decide +kernel
theorem yk_X7_beside : jw_y yX7_beside 2 := by unfold jw_y; decide +kernel
theorem yk_X7_draw : jw_y yX7_draw 0 := by unfold jw_y; decide +kernel
theorem yk_X7_init : jw_y yX7_init 0 := by unfold jw_y; decide +kernel
theorem yk_X7_in : jw_y yX7_in 3 := by unfold jw_y; decide +kernel
theorem yk_X7_isKind : jw_y yX7_isKind 1 := by unfold jw_y; decide +kernel
theorem yk_X7_isCell : jw_y yX7_isCell 1 := by unfold jw_y; decide +kernel
theorem yk_X7_isCross : jw_y yX7_isCross 1 := by unfold jw_y; decide +kernel
theorem yk_X7_kindOf : jw_y yX7_kindOf 1 := by unfold jw_y; decide +kernel
theorem yk_X7_turnsOf : jw_y yX7_turnsOf 1 := by unfold jw_y; decide +kernel
theorem yk_X7_colourBy : jw_y yX7_colourBy 3 := by unfold jw_y; decide +kernel
theorem yk_X7_colourOf : jw_y yX7_colourOf 2 := by unfold jw_y; decide +kernel
theorem yk_X7_hasArm : jw_y yX7_hasArm 1 := by unfold jw_y; decide +kernel
theorem yk_X7_armColour : jw_y yX7_armColour 1 := by unfold jw_y; decide +kernel
theorem yk_X7_clash : jw_y yX7_clash 2 := by unfold jw_y; decide +kernel
theorem yk_X7_touch : jw_y yX7_touch 2 := by unfold jw_y; decide +kernel
theorem yk_X7_areClashing : jw_y yX7_areClashing 0 := by unfold jw_y; decide +kernel
theorem yk_X7_record : jw_y yX7_record 1 := by unfold jw_y; decide +kernel
theorem yk_X7_putAside : jw_y yX7_putAside 0 := by unfold jw_y; decide +kernel
theorem yk_X7_putBack : jw_y yX7_putBack 0 := by unfold jw_y; decide +kernel
theorem yk_X7_undo : jw_y yX7_undo 0 := by unfold jw_y; decide +kernel
theorem yk_X7_keep : jw_y yX7_keep 0 := by unfold jw_y; decide +kernel
theorem yk_X7_restore : jw_y yX7_restore 0 := by unfold jw_y; decide +kernel
theorem yk_X7_canStay : jw_y yX7_canStay 0 := by unfold jw_y; decide +kernel
theorem yk_X7_paint : jw_y yX7_paint 3 := by unfold jw_y; decide +kernel
theorem yk_X7_setRule : jw_y yX7_setRule 1 := by unfold jw_y; decide +kernel
theorem yk_X7_touches : jw_y yX7_touches 3 := by unfold jw_y; decide +kernel
theorem yk_X7_why : jw_y yX7_why 3 := by unfold jw_y; decide +kernel
theorem yk_X7_add : jw_y yX7_add 3 := by unfold jw_y; decide +kernel
theorem yk_X7_noLay : jw_y yX7_noLay 3 := by unfold jw_y; decide +kernel
theorem yk_X7_lay : jw_y yX7_lay 3 := by unfold jw_y; decide +kernel
theorem yk_X7_remove : jw_y yX7_remove 1 := by unfold jw_y; decide +kernel
theorem yk_X7_take : jw_y yX7_take 1 := by unfold jw_y; decide +kernel
theorem yk_X7_turn : jw_y yX7_turn 2 := by unfold jw_y; decide +kernel
theorem yk_X7_isFreeFor : jw_y yX7_isFreeFor 2 := by unfold jw_y; decide +kernel
theorem yk_X7_move : jw_y yX7_move 2 := by unfold jw_y; decide +kernel
theorem yk_X7_shifted : jw_y yX7_shifted 3 := by unfold jw_y; decide +kernel
theorem yk_X7_shift : jw_y yX7_shift 2 := by unfold jw_y; decide +kernel
theorem yk_X7_fill : jw_y yX7_fill 1 := by unfold jw_y; decide +kernel
theorem yk_X7_type : jw_y yX7_type 1 := by unfold jw_y; decide +kernel
theorem yk_X7_clearText : jw_y yX7_clearText 0 := by unfold jw_y; decide +kernel
theorem yk_X7_sign : jw_y yX7_sign 0 := by unfold jw_y; decide +kernel
theorem yk_X7_take_ : jw_y yX7_take_ 1 := by unfold jw_y; decide +kernel
theorem yk_X7_takeDigit : jw_y yX7_takeDigit 1 := by unfold jw_y; decide +kernel
theorem yk_X7_takeCell : jw_y yX7_takeCell 0 := by unfold jw_y; decide +kernel
theorem yk_X7_takeOrder : jw_y yX7_takeOrder 0 := by unfold jw_y; decide +kernel
theorem yk_X7_findFault : jw_y yX7_findFault 0 := by unfold jw_y; decide +kernel
theorem yk_X7_doOrder : jw_y yX7_doOrder 0 := by unfold jw_y; decide +kernel
theorem yk_X7_perform : jw_y yX7_perform 0 := by unfold jw_y; decide +kernel
theorem yk_X7_colour : jw_y yX7_colour 2 := by unfold jw_y; decide +kernel
theorem yk_X7_freeBeside : jw_y yX7_freeBeside 1 := by unfold jw_y; decide +kernel
theorem yk_X7_cell : jw_y yX7_cell 2 := by unfold jw_y; decide +kernel
theorem yk_X7_touchesAt : jw_y yX7_touchesAt 1 := by unfold jw_y; decide +kernel
theorem yk_X7_areTouching : jw_y yX7_areTouching 2 := by unfold jw_y; decide +kernel
theorem yk_X7_touchesOf : jw_y yX7_touchesOf 1 := by unfold jw_y; decide +kernel
theorem yk_X7_others : jw_y yX7_others 1 := by unfold jw_y; decide +kernel
theorem yk_X7_freeArms : jw_y yX7_freeArms 1 := by unfold jw_y; decide +kernel
theorem yk_X7_waysToTurn : jw_y yX7_waysToTurn 1 := by unfold jw_y; decide +kernel
theorem yk_X7_cross : jw_y yX7_cross 2 := by unfold jw_y; decide +kernel
theorem yk_X7_allTouches : jw_y yX7_allTouches 1 := by unfold jw_y; decide +kernel
theorem yk_X7_markRegion : jw_y yX7_markRegion 1 := by unfold jw_y; decide +kernel
theorem yk_X7_regions : jw_y yX7_regions 1 := by unfold jw_y; decide +kernel
theorem yk_X7_groups : jw_y yX7_groups 0 := by unfold jw_y; decide +kernel
theorem yk_X7_alone : jw_y yX7_alone 0 := by unfold jw_y; decide +kernel
theorem yk_X7_total : jw_y yX7_total 1 := by unfold jw_y; decide +kernel
theorem yk_X7_reason : jw_y yX7_reason 3 := by unfold jw_y; decide +kernel
theorem yk_X7_places : jw_y yX7_places 1 := by unfold jw_y; decide +kernel
theorem yk_X7_bestPlace : jw_y yX7_bestPlace 2 := by unfold jw_y; decide +kernel
theorem yk_X7_comesUpon : jw_y yX7_comesUpon 2 := by unfold jw_y; decide +kernel
theorem yk_X7_shifts : jw_y yX7_shifts 1 := by unfold jw_y; decide +kernel
theorem yk_X7_halfTurn : jw_y yX7_halfTurn 0 := by unfold jw_y; decide +kernel
