/-! own rows: the class tables that every contract carries, a method's frame, calls with the frame rule inside -/
abbrev nh_T (cI cZ cO : ClassId) : List (ClassId × FieldType) := [(cI, .int), (cZ, .boolean), (cO, .object RX6)]
def nh_nest : List (String × Nat × MethodName) := [(RX10, 11, yX7_init), (RX10, 18, yX1_init), (RX10, 28, yX0_init), (RX10, 35, yX4_init), (RX10, 49, yX3_init), (RX10, 56, yX8_init), (RX10, 63, yX5_init), (RX10, 74, yX6_init), (RX7, 42, yX10_isSort), (RX7, 52, yX10_bit), (RX1, 35, yX10_isSort), (RX1, 49, yX10_bit), (RX0, 15, yX10_told), (RX9, 55, yX10_told), (RX2, 25, yX10_bit)]
def nh_N (U : State) : Prop := va_AO RX6 U ∧ ∀ q ∈ nh_nest, va_Nw (.methodLinkNest q.1 q.2.1 q.2.2 RX10) U
theorem nh_N_warm {s U : State} (hW : s.WarmedH U.vm) (h : nh_N s) : nh_N U := ⟨h.1.moved hW.alike, fun q hq => va_Nw.warmM hW (h.2 q hq)⟩
theorem nh_N_same {u U : State} (hv : u.vm = U.vm) (h : nh_N u) : nh_N U := ⟨h.1.moved (by rw [hv]; exact Vm.Alike.refl _), fun q hq => va_Nw.same rfl hv (h.2 q hq)⟩
theorem nh_N_at {s : State} (h : nh_N s) {a : String} {i : Nat} {y : MethodName} (k : Nat) (hk : nh_nest[k]? = some (a, i, y)) : va_Nw (.methodLinkNest a i y RX10) s := h.2 (a, i, y) (List.mem_of_getElem? hk)
def nh_B (D : va_G) (cI cZ cO : ClassId) (w : va_W) (sz : Nat) (U : State) : Prop := U.heap.size = sz ∧ va_P D vwCl w U.heap ∧ va_K D vwCl (nh_T cI cZ cO) U ∧ va_D (fun _ => True) w ∧ nh_N U
abbrev nh_Pc (D : va_G) (cI cZ cO : ClassId) (w : va_W) (av : List Value) (sz : Nat) : Array Value → State → Prop := va_Pc av (nh_B D cI cZ cO w sz)
theorem nh_blind {D : va_G} {cI cZ cO : ClassId} {w : va_W} {av : List Value} {sz : Nat} : FrameBlind (nh_Pc D cI cZ cO w av sz) := fun a U g mk q => by
  obtain ⟨q0, q1, q2, q3, q4, q5⟩ := q
  exact ⟨q0, q1, q2, va_K.moved (u := U) (U := U.calling g mk a) (Vm.Alike.refl U.vm) q3, q4, nh_N_same (u := U) rfl q5⟩
def nh_Qi (D : va_G) (w1 : va_W) (r0 : Int32) (A : Nat → Prop) : Array Value → State → Outcome → State → Prop := va_Qi (fun r (_ : Unit) => r = r0) (fun _ t => va_P D vwCl w1 t.heap) A
def nh_Qv (D : va_G) (w1 : va_W) (A : Nat → Prop) : Array Value → State → Outcome → State → Prop := va_Qv (fun (_ : Unit) => True) (fun _ t => va_P D vwCl w1 t.heap) A
abbrev nh_rm (k : Nat) : Room := { frames := k, cells := 0, slots := 0, locals := 64 * k }
theorem nh_met {l : Launch} {D : va_G} {cI cZ cO : ClassId} {y : MethodName} {ws ws' : List Cond} {rm : Room} {w : va_W} {av : List Value} {sz maxL mc ms : Nat} {cc : ByteArray} {ret : Option FieldType} (QF : (Nat → Prop) → Array Value → State → Outcome → State → Prop) (hy : plainName y.cls = true) (hw : ws = Cond.code y cc maxL ret :: ws') (hav : (lg_sl av).length ≤ maxL)
    (body : ∀ (p : Program) (e : Env) (s : State) (m : MethodId) (args : Array Value) (below : List Frame) (meth : Method) (c : Code) (A : Nat → Prop) (H : Heap) (locs : List Loc) (ls : Array Slot), p.tables.exec = Jvm.exec → c.code = cc → c.maxLocals = maxL → meth.sig.returnType = ret → s.vm.findClass y.cls = some m.cls → (∀ w ∈ ws, w.before args s = true) → meth.locks = false → (y.name = "<init>" → meth.name = "<init>") → va_P D vwCl w H → va_K D vwCl (nh_T cI cZ cO) s → nh_N s → va_D A w → (∀ q, s.heap.size ≤ q → A q) → va_S A s.heap H locs → lv_has ls maxL (lv_args 0 av) → W p l e rm s m args below meth c H locs 0 0 (MQ below (QF A) args s mc ms A) (F0 m 0 ls [])) : Met l y ws rm (nh_Pc D cI cZ cO w av sz) (QF (va_A w sz)) mc ms (va_A w sz) := by
  refine Met.ofW hy hw ?_
  intro p e s m args below meth c s₁ B hml hv
  obtain ⟨rfl, hsz, hP, hK, hD0, hN⟩ := hv
  have hD := hD0.self (sz := s.heap.size)
  have hl := lv_entry av (n := maxL) hav
  rw [lg_entry_eq]
  generalize (lg_sl av ++ List.replicate (maxL - (lg_sl av).length) Slot.unset).toArray = ls at hl ⊢
  subst hsz
  exact body p e s m _ below meth c _ s.heap [] ls B.exec B.bytes hml B.returns (findClass_of_methodNamed B.named) (atoms_spec (ws := ws) B.pre) B.notSynchronized (fun hi => (name_of_methodNamed B.named B.method).1.trans hi) hP hK hN hD (fun q h => Or.inr h) va_S.rf hl
/-- two references -/
def nh_two (a b : Nat) : Nat → Option Nat := fun j => if j = 0 then some a else if j = 1 then some b else none
def nh_cp (sp dp n : Int32) (n0 n1 : Nat) : Bool := decide (¬ sp < 0 ∧ ¬ dp < 0 ∧ ¬ n < 0 ∧ sp.toNatClampNeg + n.toNatClampNeg ≤ n0 ∧ dp.toNatClampNeg + n.toNatClampNeg ≤ n1)
theorem nh_cp_ok {sp dp n : Int32} {n0 n1 : Nat} (h : nh_cp sp dp n n0 n1 = true) : ¬ sp < 0 ∧ ¬ dp < 0 ∧ ¬ n < 0 ∧ sp.toNatClampNeg + n.toNatClampNeg ≤ n0 ∧ dp.toNatClampNeg + n.toNatClampNeg ≤ n1 := of_decide_eq_true h
section NHR
variable {p : Program} {l : Launch} {e : Env} {R : Room} {s : State} {m : MethodId} {args : Array Value} {below : List Frame} {meth : Method} {c : Code} {H : Heap} {locs : List Loc} {cells slots : Nat} {Q : State → Prop}
variable {cc : ByteArray} {pc : Nat} {ls : Array Slot} {rest st0 : List Value} {D : va_G} {cI cZ cO : ClassId} {A : Nat → Prop} {w wc w1 : va_W} {H0 : Heap}
theorem nh_ri (hx : p.tables.exec = Jvm.exec) (hb : c.code = cc) (hr : meth.sig.returnType = some .int) (hlocks : meth.locks = false) {v r0 : Int32} (hv : v = r0) (hP : va_P D vwCl w1 H) (hS : va_S A s.heap H locs) (hdg : decode cc pc = .ok (.ireturn, 1)) : W p l e R s m args below meth c H locs cells slots (MQ below (nh_Qi D w1 r0 A) args s cells slots A) (F0 m pc ls [.int v]) :=
  W.iret hx hb hr (fun t ht hW => ⟨⟨v, (), rfl, hv, by show va_P D vwCl w1 t.heap; rw [ht]; exact hP⟩, hS.F ht⟩) hS.2.2 hdg hlocks
theorem nh_rz (hx : p.tables.exec = Jvm.exec) (hb : c.code = cc) (hr : meth.sig.returnType = some .boolean) (hlocks : meth.locks = false) {v r0 : Int32} (hv : v = r0) (hz : narrow .boolean (.int v) = .int v) (hP : va_P D vwCl w1 H) (hS : va_S A s.heap H locs) (hdg : decode cc pc = .ok (.ireturn, 1)) : W p l e R s m args below meth c H locs cells slots (MQ below (nh_Qi D w1 r0 A) args s cells slots A) (F0 m pc ls [.int v]) :=
  W.zret hx hb hr hz (fun t ht hW => ⟨⟨v, (), rfl, hv, by show va_P D vwCl w1 t.heap; rw [ht]; exact hP⟩, hS.F ht⟩) hS.2.2 hdg hlocks
theorem nh_rv (hx : p.tables.exec = Jvm.exec) (hb : c.code = cc) (hr : meth.sig.returnType = none) (hlocks : meth.locks = false) (hP : va_P D vwCl w1 H) (hS : va_S A s.heap H locs) (hdg : decode cc pc = .ok (.return_, 1)) : W p l e R s m args below meth c H locs cells slots (MQ below (nh_Qv D w1 A) args s cells slots A) (F0 m pc ls []) :=
  W.vret hx hb hr (fun t ht hW => ⟨⟨(), rfl, trivial, by show va_P D vwCl w1 t.heap; rw [ht]; exact hP⟩, hS.F ht⟩) hS.2.2 hdg hlocks
def nh_setA (w : va_W) : List Nat → va_W → va_W
  | i :: is, x :: xs => nh_setA (w.set i x) is xs
  | _, _ => w
theorem nh_fm {α β : Type} {f : α → Option β} : ∀ {is : List α} {wc : List β}, is.map f = wc.map some → is.filterMap f = wc
  | [], [], _ => rfl
  | [], _ :: _, h => by cases h
  | _ :: _, [], h => by cases h
  | i :: is, x :: wc, h => by
    simp only [List.map_cons, List.cons.injEq] at h
    rw [List.filterMap_cons, h.1, nh_fm h.2]
theorem nh_setA_at : ∀ (is : List Nat) (w1 w : va_W), va_nd is = true → ∀ (k : Nat) (q : Nat × va_E), (nh_setA w is w1)[k]? = some q → (∃ j : Nat, is[j]? = some k ∧ w1[j]? = some q) ∨ ((∀ j : Nat, j < w1.length → is[j]? ≠ some k) ∧ w[k]? = some q)
  | [], w1, w, _, k, q, h => Or.inr ⟨fun j _ => by simp, by cases w1 <;> exact h⟩
  | i :: is, [], w, _, k, q, h => Or.inr ⟨fun j hj => by simp at hj, h⟩
  | i :: is, x :: xs, w, hn, k, q, h => by
    simp only [va_nd, Bool.and_eq_true, decide_eq_true_eq] at hn
    rcases nh_setA_at is xs (w.set i x) hn.2 k q h with ⟨j, h1, h2⟩ | ⟨h1, h2⟩
    · exact Or.inl ⟨j + 1, by simpa using h1, by simpa using h2⟩
    · by_cases hk : k = i
      · subst hk
        have hl : k < w.length := by
          rcases Nat.lt_or_ge k w.length with g | g
          · exact g
          · rw [List.getElem?_eq_none (by simpa using g)] at h2
            cases h2
        rw [List.getElem?_set_self hl] at h2
        exact Or.inl ⟨0, rfl, by simpa using h2⟩
      · rw [List.getElem?_set_ne (Ne.symm hk)] at h2
        refine Or.inr ⟨fun j hj => ?_, h2⟩
        cases j with
        | zero => simpa using fun e => hk e.symm
        | succ j => simpa using h1 j (by simpa using hj)
theorem nh_join (hP : va_P D vwCl w H) (hD : va_D A w) {isC : List Nat} (hC : isC.map (fun i => w[i]?) = wc.map some) (hnd : va_nd isC = true) (hfst : w1.map Prod.fst = wc.map Prod.fst) {H1 : Heap} (hk : ∀ q : Nat, q < H.size → ¬ va_A wc H.size q → H1[q]? = H[q]?) (hP1 : va_P D vwCl w1 H1) : va_P D vwCl (nh_setA w isC w1) H1 ∧ va_D A (nh_setA w isC w1) := by
  have hlen : w1.length = wc.length := by simpa using congrArg List.length hfst
  have hlen2 : isC.length = wc.length := by simpa using congrArg List.length hC
  have old : ∀ (j k : Nat) (q : Nat × va_E), isC[j]? = some k → w1[j]? = some q → ∃ e, w[k]? = some (q.1, e) ∧ wc[j]? = some (q.1, e) := by
    intro j k q h1 h2
    have h3 : (w1.map Prod.fst)[j]? = some q.1 := by rw [List.getElem?_map, h2]; rfl
    rw [hfst, List.getElem?_map] at h3
    cases h4 : wc[j]? with
    | none => rw [h4] at h3; cases h3
    | some z =>
      rw [h4] at h3
      have hz : z.1 = q.1 := Option.some.inj h3
      have h5 : (isC.map (fun i => w[i]?))[j]? = some (some z) := by rw [hC, List.getElem?_map, h4]; rfl
      rw [List.getElem?_map, h1] at h5
      refine ⟨z.2, ?_, ?_⟩
      · rw [← hz]; exact Option.some.inj h5
      · rw [← hz]
  have fst : ∀ (k : Nat) (q : Nat × va_E), (nh_setA w isC w1)[k]? = some q → ∃ e, w[k]? = some (q.1, e) := by
    intro k q hq
    rcases nh_setA_at isC w1 w hnd k q hq with ⟨j, h1, h2⟩ | ⟨-, h2⟩
    · obtain ⟨e, h3, -⟩ := old j k q h1 h2
      exact ⟨e, h3⟩
    · exact ⟨q.2, h2⟩
  refine ⟨fun k q hq => ?_, fun i j x y hi hj hxy => ?_, fun k q hq => ?_⟩
  · rcases nh_setA_at isC w1 w hnd k q hq with ⟨j, h1, h2⟩ | ⟨h1, h2⟩
    · exact hP1 j q h2
    · refine (hP k q h2).kept (hk q.1 (hP k q h2).lt ?_)
      rintro (⟨j, e, h3⟩ | h3)
      · have h4 : (isC.map (fun i => w[i]?))[j]? = some (some (q.1, e)) := by rw [hC, List.getElem?_map, h3]; rfl
        rw [List.getElem?_map] at h4
        cases h5 : isC[j]? with
        | none => rw [h5] at h4; cases h4
        | some i =>
          rw [h5] at h4
          have h6 : w[i]? = some (q.1, e) := Option.some.inj h4
          have := hD.1 i k _ _ h6 h2 rfl
          subst this
          refine h1 j ?_ h5
          rw [hlen]
          exact (List.getElem?_eq_some_iff.mp h3).1
      · exact absurd (hP k q h2).lt (Nat.not_lt.mpr h3)
  · obtain ⟨e1, g1⟩ := fst i x hi
    obtain ⟨e2, g2⟩ := fst j y hj
    exact hD.1 i j _ _ g1 g2 hxy
  · obtain ⟨e1, g1⟩ := fst k q hq
    exact hD.2 k (q.1, e1) g1
theorem nh_pre {av : List Value} (hK : va_K D vwCl (nh_T cI cZ cO) s) (hN : nh_N s) (hP : va_P D vwCl w H) (hD : va_D A w) {isC : List Nat} (hC : isC.map (fun i => w[i]?) = wc.map some) (hnd : va_nd isC = true) : ∀ U : State, U.heap = H → s.WarmedH U.vm → nh_Pc D cI cZ cO wc av H.size av.toArray U := by
  intro U hU hW
  refine ⟨rfl, by rw [hU], by rw [hU]; exact hP.sub isC (nh_fm hC), va_K.moved hW.alike hK, (hD.sub isC hnd hC).weaken (fun _ _ _ _ => trivial), nh_N_warm hW hN⟩
theorem nh_goi {a : Array Value} {r0 : Int32} (hrun : va_Run p l e R s m args below meth c H locs cells slots 0 0 (F0 m pc ls st0) rest (nh_Qi D w1 r0 (va_A wc H.size) a) (va_A wc H.size)) (hP : va_P D vwCl w H) (hD : va_D A w) (hS : va_S A H0 H locs) (hA : ∀ q, H0.size ≤ q → A q) {isC : List Nat} (hC : isC.map (fun i => w[i]?) = wc.map some) (hnd : va_nd isC = true) (hfst : w1.map Prod.fst = wc.map Prod.fst) {w' : va_W} (hw : nh_setA w isC w1 = w')
    (kk : ∀ (H1 : Heap) (locs1 : List Loc), va_P D vwCl w' H1 → va_D A w' → va_S A H0 H1 locs1 → W p l e R s m args below meth c H1 locs1 cells slots Q (F0 m (pc + 3) ls (.int r0 :: rest))) : W p l e R s m args below meth c H locs cells slots Q (F0 m pc ls st0) := by
  have hF := va_free (wc := wc) hD hS hA isC hC
  refine va_calli hrun hS (fun q _ h => hF q h) hF (fun r u t H1 locs1 ht hvm hw1 hB hz1 hk1 hS1 => ?_)
  subst hw1
  have hP1 : va_P D vwCl w1 H1 := by rw [← ht]; exact hB
  obtain ⟨g1, g2⟩ := nh_join hP hD hC hnd hfst hk1 hP1
  rw [hw] at g1 g2
  exact kk H1 locs1 g1 g2 hS1
theorem nh_gov {a : Array Value} (hrun : va_Run p l e R s m args below meth c H locs cells slots 0 0 (F0 m pc ls st0) rest (nh_Qv D w1 (va_A wc H.size) a) (va_A wc H.size)) (hP : va_P D vwCl w H) (hD : va_D A w) (hS : va_S A H0 H locs) (hA : ∀ q, H0.size ≤ q → A q) {isC : List Nat} (hC : isC.map (fun i => w[i]?) = wc.map some) (hnd : va_nd isC = true) (hfst : w1.map Prod.fst = wc.map Prod.fst) {w' : va_W} (hw : nh_setA w isC w1 = w')
    (kk : ∀ (H1 : Heap) (locs1 : List Loc), va_P D vwCl w' H1 → va_D A w' → va_S A H0 H1 locs1 → W p l e R s m args below meth c H1 locs1 cells slots Q (F0 m (pc + 3) ls rest)) : W p l e R s m args below meth c H locs cells slots Q (F0 m pc ls st0) := by
  have hF := va_free (wc := wc) hD hS hA isC hC
  refine va_callv hrun hS (fun q _ h => hF q h) hF (fun u t H1 locs1 ht hvm hw1 hB hz1 hk1 hS1 => ?_)
  have hP1 : va_P D vwCl w1 H1 := by rw [← ht]; exact hB
  obtain ⟨g1, g2⟩ := nh_join hP hD hC hnd hfst hk1 hP1
  rw [hw] at g1 g2
  exact kk H1 locs1 g1 g2 hS1
variable {y : MethodName} {bytes : ByteArray} {maxL nL n index : Nat} {ret : Option FieldType} {wsy Ts : List Cond} {rm : Room} {own C : String} {b : Addr} {As : List Value} {Qc : Array Value → State → Outcome → State → Prop}
/-- a call of an instance method: it runs -/
theorem nh_V (S : CallFix p m c cc nL s args Ts own) (hM : Met l y wsy rm (nh_Pc D cI cZ cO wc (.ref b :: As) H.size) Qc 0 0 (va_A wc H.size)) (cw : CallW R s args own C index y bytes maxL ret wsy rm 0 0 n) (hK : va_K D vwCl (nh_T cI cZ cO) s) (hN : nh_N s) (hP : va_P D vwCl w H) (hD : va_D A w) {isC : List Nat} (hC : isC.map (fun i => w[i]?) = wc.map some) (hnd : va_nd isC = true)
    (q0 ci : Nat) {fs : List Value} {q : vw_C} (hq : w[q0]? = some (b, .inr (ci, fs))) (hcl : vwCl[ci]? = some q) (hCq : q.1 = C) (hn : As.length = n) (hsize : ls.size = nL) (hst : st0 = As.reverse ++ .ref b :: rest) (hcat : (rest.map fun v => v.category).sum ≤ 8) (hdg : decode cc pc = .ok (.invokevirtual index, 3)) (hc : cells ≤ R.cells ∧ slots ≤ R.slots) :
    va_Run p l e R s m args below meth c H locs cells slots 0 0 (F0 m pc ls st0) rest (Qc (Value.ref b :: As).toArray) (va_A wc H.size) := by
  subst hCq
  exact va_runV S hM cw ⟨nh_blind, va_recv hK hP hcl hq, nh_pre (av := .ref b :: As) hK hN hP hD hC hnd⟩ rfl hn hsize hst (lv_room hcat) hdg hc
/-- a call of a static method: it runs -/
theorem nh_S (S : CallFix p m c cc nL s args Ts own) (hM : Met l y wsy rm (nh_Pc D cI cZ cO wc As H.size) Qc 0 0 (va_A wc H.size)) (cw : CallB R s args own index y bytes maxL ret wsy rm 0 0 n ∧ (Cond.static y).before args s = true) (hK : va_K D vwCl (nh_T cI cZ cO) s) (hN : nh_N s) (hP : va_P D vwCl w H) (hD : va_D A w) {isC : List Nat} (hC : isC.map (fun i => w[i]?) = wc.map some) (hnd : va_nd isC = true)
    (hn : As.length = n) (hsize : ls.size = nL) (hst : st0 = As.reverse ++ rest) (hcat : (rest.map fun v => v.category).sum ≤ 8) (hdg : decode cc pc = .ok (.invokestatic index, 3)) (hc : cells ≤ R.cells ∧ slots ≤ R.slots) :
    va_Run p l e R s m args below meth c H locs cells slots 0 0 (F0 m pc ls st0) rest (Qc As.toArray) (va_A wc H.size) :=
  va_runS S hM cw ⟨nh_blind, nh_pre (av := As) hK hN hP hD hC hnd⟩ rfl hn hsize hst (lv_room hcat) hdg hc
/-- a call of a nest mate's private static method: it runs -/
theorem nh_SN (S : CallFix p m c cc nL s args Ts own) (hM : Met l y wsy rm (nh_Pc D cI cZ cO wc As H.size) Qc 0 0 (va_A wc H.size)) (cw : va_CN R s args own index y RX10 bytes maxL ret wsy rm 0 0 n ∧ (Cond.static y).before args s = true ∧ True) (hK : va_K D vwCl (nh_T cI cZ cO) s) (hN : nh_N s) (hP : va_P D vwCl w H) (hD : va_D A w) {isC : List Nat} (hC : isC.map (fun i => w[i]?) = wc.map some) (hnd : va_nd isC = true)
    (hn : As.length = n) (hsize : ls.size = nL) (hst : st0 = As.reverse ++ rest) (hcat : (rest.map fun v => v.category).sum ≤ 8) (hdg : decode cc pc = .ok (.invokestatic index, 3)) (hc : cells ≤ R.cells ∧ slots ≤ R.slots) :
    va_Run p l e R s m args below meth c H locs cells slots 0 0 (F0 m pc ls st0) rest (Qc As.toArray) (va_A wc H.size) :=
  va_runSN S hM cw ⟨nh_blind, nh_pre (av := As) hK hN hP hD hC hnd⟩ rfl hn hsize hst (lv_room hcat) hdg hc
end NHR
