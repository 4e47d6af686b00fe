/-! ===== new NoSuchElementException(text), thrown: its constructor's link differs from the kit's chain (13, not 7) ===== -/
section NSEE
abbrev nxE : String := "java/util/NoSuchElementException"
abbrev nxR : String := "java/lang/RuntimeException"
abbrev nxX : String := "java/lang/Exception"
abbrev nxB : ByteArray := prog_31_method_4_code
theorem nxB_0 : decode nxB 0 = .ok (.aload_n 0, 1) := by decide +kernel
theorem nxB_1 : decode nxB 1 = .ok (.aload_n 1, 1) := by decide +kernel
theorem nxB_2 : decode nxB 2 = .ok (.invokespecial 13, 3) := by decide +kernel
theorem nxB_5 : decode nxB 5 = .ok (.return_, 1) := by decide +kernel
def nxZ : List Cond := [.methodLink RX10 257 (Bundle.initS nxE), .instantiable nxE 6, .selects nxE Bundle.tFill0 Bundle.tFill0, .selects nxE Bundle.tFill Bundle.tFill,
  .lays nxE Bundle.tN "cause" "Ljava/lang/Throwable;", .lays nxE Bundle.tN "stackTrace" Bundle.steD, .lays nxE Bundle.tN "suppressedExceptions" Bundle.listD, .lays nxE Bundle.tN "detailMessage" "Ljava/lang/String;",
  .fieldLink Bundle.tN 198 Bundle.tN "backtrace" "Ljava/lang/Object;", .lays Bundle.tN Bundle.tN "backtrace" "Ljava/lang/Object;", .lays nxE Bundle.tN "backtrace" "Ljava/lang/Object;"]
/-- words by their places in the tables -/
theorem nx_pl {L : List Cond} (ps : List (Nat × Nat)) (h : L = ps.filterMap (fun q => if q.1 = 1 then tables_1_1[q.2]? else tables_1_5[q.2]?)) (hg : L.all goodWord = true) : ∀ w ∈ L, w ∈ gw := by
  intro w hw
  have h1 := List.all_eq_true.mp hg w hw
  rw [h] at hw
  obtain ⟨q, -, hq⟩ := List.mem_filterMap.mp hw
  split at hq
  · exact tg_1 (List.mem_of_getElem? hq) h1
  · exact tg_5 (List.mem_of_getElem? hq) h1
theorem nx_T : ∀ w ∈ Bundle.throwableAtoms.filter vx_no, w ∈ gw := nx_pl [(1, 19), (5, 34), (5, 43), (5, 45), (5, 48), (5, 50), (5, 35), (5, 36), (1, 30), (1, 31), (5, 37), (5, 42), (5, 46), (5, 66), (5, 24), (5, 67), (5, 26), (5, 68), (5, 28), (5, 38), (5, 40), (5, 30)] (by decide +kernel) (by decide +kernel)
theorem nx_TS : ∀ w ∈ Bundle.throwableSAtoms, w ∈ gw := nx_pl [(5, 62), (5, 63), (5, 65), (5, 30)] (by decide +kernel) (by decide +kernel)
theorem nx_P : ∀ w ∈ (Bundle.passSAtoms nxE nxR 13 nxB).filter goodWord, w ∈ gw := nx_pl [(5, 53), (5, 54), (5, 55), (5, 56)] (by decide +kernel) (by decide +kernel)
theorem nx_C : ∀ w ∈ (Bundle.chainSAtoms nxR [nxX]).filter goodWord, w ∈ gw := nx_pl [(5, 56), (5, 57), (5, 58), (5, 59), (5, 59), (5, 60), (5, 61), (5, 62)] (by decide +kernel) (by decide +kernel)
/-- words that are no good words, carried by themselves -/
def nxD : List Cond := [.declares (Bundle.initS nxR), .declares (Bundle.initS nxX), .declares (Bundle.initS Bundle.tN), .castable nxE nxE]
theorem nx_PD : ∀ w ∈ (Bundle.passSAtoms nxE nxR 13 nxB).filter (fun w => !goodWord w), w ∈ nxD := by decide +kernel
theorem nx_CD : ∀ w ∈ (Bundle.chainSAtoms nxR [nxX]).filter (fun w => !goodWord w), w ∈ nxD := by decide +kernel
theorem nxD_ok : ∀ w ∈ nxD, w.onTables = true ∧ w.keepsFace = true := by decide +kernel
theorem face_at {w : Cond} {args a' : Array Value} {s U : State} (ho : w.onTables = true) (hk : w.keepsFace = true) (hW : s.WarmedH U.vm) (h : w.before args s = true) : w.before a' U = true := by
  have h1 : w.before args (s.setVm U.vm) = true := Cond.before_shiftedFace (State.Shifted.of_warmed hW) _ hk h
  rw [Cond.onTables_vm (A' := a') (U' := U) U.vm w ho] at h1
  rwa [State.setVm_self] at h1
/-- what a throw needs, beside the good words -/
def ST (g : gT) (U : State) (H : Heap) : Prop := vx_Zq Bundle.tN "UNASSIGNED_STACK" Bundle.steD (gB g) U H ∧ vx_Zq Bundle.tN "SUPPRESSED_SENTINEL" Bundle.listD (gB g) U H ∧ ∀ w ∈ nxD, va_Nw w U
theorem ST.at {g : gT} {A0 : Nat → Prop} {s U : State} {H : Heap} {locs : List Loc} (h : ST g s s.heap) (hA : ∀ a, A0 a → g.2 4 ≤ a) (hS : va_S A0 s.heap H locs) (hU : U.heap = H) (hW : s.WarmedH U.vm) : ST g U U.heap := by
  obtain ⟨h1, h2, h3⟩ := h
  have hq : ∀ a : Nat, a < s.heap.size → ¬ gB g a → H[a]? = s.heap[a]? := fun a ha hn => hS.2.1 a ha (fun z => hn (hA a z))
  rw [hU]
  exact ⟨(h1.moved hW.alike).kept hq, (h2.moved hW.alike).kept hq, fun w hw => face_at (nxD_ok w hw).1 (nxD_ok w hw).2 hW (h3 w hw)⟩
theorem ST.blind {g : gT} {U : State} (h : ST g U U.heap) (f : JFrame) (mk : MethodId) (a : Array Value) : ST g (U.calling f mk a) (U.calling f mk a).heap :=
  ⟨vx_Zq.moved (u := U) (U := U.calling f mk a) (Vm.Alike.refl U.vm) h.1, vx_Zq.moved (u := U) (U := U.calling f mk a) (Vm.Alike.refl U.vm) h.2.1, fun w hw => va_tabs (nxD_ok w hw).1 (show U.vm = (U.calling f mk a).vm from rfl) (h.2.2 w hw)⟩
theorem nx_Z : ∀ w ∈ nxZ, w ∈ gw := nx_pl [(5, 52), (5, 13), (5, 21), (5, 22), (5, 23), (5, 25), (5, 27), (5, 29), (5, 33), (5, 32), (5, 31)] (by decide +kernel) (by decide +kernel)
theorem nx_link : Cond.classLink RX10 253 nxE ∈ gw := tg_5 (List.mem_of_getElem? (i := 12) rfl) rfl
theorem nx_linkL : Cond.classLink RL 13 nxE ∈ gw := tg_5 (List.mem_of_getElem? (i := 7) rfl) rfl
theorem nx_ini : Cond.initialized nxE ∈ gw := tg_1 (List.mem_of_getElem? (i := 22) rfl) rfl
theorem nx_cw : Cond.codeWith yL_told cL_told 5 (some .int) [(0, 10, 13, 13)] ∈ gw := tg_5 (List.mem_of_getElem? (i := 6) rfl) rfl
section Ctor
variable {p : Program} {l : Launch} {e : Env} {R : Room} {s : State} {m₀ : MethodId} {args : Array Value} {below : List Frame} {meth : Method} {c : Code} {T1 : State} {cells slots : Nat} {q : ClassId} {k : Class} {f f' : Field} {v : Value}
/-- a field as a class lays it: what its slot is for, and whose name it bears -/
def nx_F (s : State) (q : ClassId) (k : Class) (f : Field) : Prop := k.instanceTypes[f.slot]? = some f.type ∧ ∃ d, Jmm.declares? s.vm f.slot (q + 1) q = some d ∧ d.2.name = f.name
theorem nx_F.apart (h : nx_F s q k f) (h' : nx_F s q k f') (hn : f.name ≠ f'.name) : f.slot ≠ f'.slot := by
  obtain ⟨-, _, u1, u2⟩ := h
  obtain ⟨-, _, w1, w2⟩ := h'
  exact Cond.laysApart u1 w1 u2 w2 hn
theorem nx_F.holds {t : FieldType} (h : nx_F s q k f) (hk : s.vm.classes[q]? = some k) (ho : k.kind = .ordinary) (ht : f.type = t) (hv : fits t v = true) : Takes s (freshCell q k) f v :=
  Takes.of_laid hk ho h.1 (ht ▸ hv)
/-- a slot that isn't written keeps what it has -/
theorem nx_keep {x : Cell} {i j : Nat} {y : Option Value} (hx : x.slots[j]? = y) (hn : j ≠ i) : (x.setSlot i v).slots[j]? = y := by
  rw [← hx]
  exact Array.getElem?_setIfInBounds_ne (fun h => hn h.symm)
/-- a word says that nxE has no method of its own in the place of t -/
theorem nx_same {t : MethodName} {M : MethodId} (ha : l.admits e) (hq : s.vm.findClass nxE = some q) (hM : s.methodNamed? t = some M) (hM' : s.methodFound? t.cls t.name t.desc = some M) (hw : (Cond.selects nxE t t).before args s = true) :
    selectMethod e.platform s.vm q M = .method M := by
  obtain ⟨q', r, M', e1, e2, e3, e4, -⟩ := Cond.selects_spec hw
  have u1 : q' = q := Option.some.inj (e1.symm.trans hq)
  have u2 : r = M := Option.some.inj (e2.symm.trans hM')
  have u3 : M' = M := Option.some.inj (e3.symm.trans hM)
  rw [u1, u2, u3] at e4
  exact (Launch.admits_selectMethod ha s.vm q M).trans e4
/-- the three constructors that hand the text on: NoSuchElementException's own (link 13), and those above it -/
theorem nx_three {pl : Platform} (hpl : pl.magicAccessors = ({} : Platform).magicAccessors) {top : MethodId} (ht : s.methodNamed? (Bundle.initS Bundle.tN) = some top)
    (hPs : ∀ w ∈ Bundle.passSAtoms nxE nxR 13 nxB, w.before args s = true) (hCs : ∀ w ∈ Bundle.chainSAtoms nxR [nxX], w.before args s = true) :
    ∃ Ps : List PassC, Ps.length = 3 ∧ (∀ P, P ∈ Ps → P.LinksS pl s) ∧ PassesOn top (Ps.map (·.toPassT)) ∧ s.methodNamed? (Bundle.initS nxE) = some (firstOf top (Ps.map (·.toPassT))) := by
  obtain ⟨own, k1, n1, up⟩ := PassC.ofS_atoms hpl (by decide) (by decide) nxB_0 nxB_1 nxB_2 nxB_5 hPs
  obtain ⟨next, more, len, k2, k3, n2, on1, on2⟩ := Bundle.chainS hpl ht [nxX] nxR (by decide) (by decide) hCs
  refine ⟨own :: next :: more, by rw [List.length_cons, List.length_cons, len]; rfl, List.forall_mem_cons.mpr ⟨k1, List.forall_mem_cons.mpr ⟨k2, k3⟩⟩, ⟨?_, on1, on2⟩, n1⟩
  exact Option.some.inj (up.symm.trans n2)
/-- Throwable's fields in a fresh object of nxE: each takes what the constructor writes, and 'backtrace' stays null -/
theorem nx_fields {T : ThrowableC} {Z : Init0T} {pl : Platform} (hpl : pl.magicAccessors = ({} : Platform).magicAccessors) (L : T.Links pl s) (Y : Bundle.Ties T Z s) (hZs : ∀ w ∈ nxZ, w.before args s = true)
    (hq : s.vm.findClass nxE = some q) (hk : s.vm.classes[q]? = some k) (a : Addr) (u sen msg : RefV) (t : ThreadId) :
    Takes s (freshCell q k) T.fCause (.ref a) ∧ Takes s (freshCell q k) T.fStack u.v ∧ Takes s (freshCell q k) T.fSupp sen.v ∧ Takes s (freshCell q k) T.fMsg msg.v ∧
      SkipFacts T pl s (fun w => w) u ((preparedCellV T.toThrowableT (freshCell q k) a u sen).withEntry t) := by
  have wd : ∀ {w : Cond}, nxZ.contains w = true → w.before args s = true := fun h => hZs _ (List.contains_iff_mem.mp h)
  obtain ⟨q', k', i1, i2, ho, -⟩ := Cond.instantiable_spec (wd (w := .instantiable nxE 6) (by decide))
  have hq' : q' = q := Option.some.inj (i1.symm.trans hq)
  subst hq'
  have hk' : k' = k := Option.some.inj (i2.symm.trans hk)
  subst hk'
  obtain ⟨im, mf⟩ := Y.msg
  obtain ⟨cb, ib, fb, b1, b2, b3, b4, -, bn, bt, bf⟩ := Cond.ownField Y.found L.cls (t := .object "java/lang/Object") (by decide +kernel) (wd (w := .fieldLink Bundle.tN 198 Bundle.tN "backtrace" "Ljava/lang/Object;") (by decide)) (wd (w := .lays Bundle.tN Bundle.tN "backtrace" "Ljava/lang/Object;") (by decide)) pl hpl
  have F1 : nx_F s q' k' T.fCause := Cond.laysAt hq hk Y.cause (wd (w := .lays nxE Bundle.tN "cause" "Ljava/lang/Throwable;") (by decide))
  have F2 : nx_F s q' k' T.fStack := Cond.laysAt hq hk Y.stack (wd (w := .lays nxE Bundle.tN "stackTrace" Bundle.steD) (by decide))
  have F3 : nx_F s q' k' T.fSupp := Cond.laysAt hq hk Y.supp (wd (w := .lays nxE Bundle.tN "suppressedExceptions" Bundle.listD) (by decide))
  have F4 : nx_F s q' k' T.fMsg := Cond.laysAt hq hk mf (wd (w := .lays nxE Bundle.tN "detailMessage" "Ljava/lang/String;") (by decide))
  have F5 : nx_F s q' k' fb := Cond.laysAt hq hk bf (wd (w := .lays nxE Bundle.tN "backtrace" "Ljava/lang/Object;") (by decide))
  have nul : (freshCell q' k').slots[fb.slot]? = some .null := (fresh_default F5.1).trans (by rw [bt]; rfl)
  refine ⟨F1.holds hk ho Y.causeType rfl, F2.holds hk ho Y.stackType (fits_refV_array _ u), F3.holds hk ho Y.suppType (fits_refV_object _ sen), F4.holds hk ho Y.msgType (fits_refV_object _ msg), ⟨cb, ib, fb⟩, ⟨b1, b2, b3, b4⟩, ?_, fun _ _ => rfl⟩
  show (preparedCellV T.toThrowableT (freshCell q' k') a u sen).slots[fb.slot]? = some .null
  exact nx_keep (nx_keep (nx_keep nul (F5.apart F1 (by rw [bn, Y.causeName]; decide))) (F5.apart F2 (by rw [bn, Y.stackName]; decide))) (F5.apart F3 (by rw [bn, Y.suppName]; decide))
/-- Throwable's two statics, found where they were in a state that has changed no cell but new ones -/
theorem nx_statics {T : ThrowableC} {Z : Init0T} {pl : Platform} (L : T.Links pl s) (Y : Bundle.Ties T Z s) (hUn : (Cond.isRef (.static Bundle.tN "UNASSIGNED_STACK" Bundle.steD)).before args s = true) (hSe : (Cond.isRef (.static Bundle.tN "SUPPRESSED_SENTINEL" Bundle.listD)).before args s = true)
    {T2 : State} (hs : s.sameButNew T2 [] cells slots) :
    T.aS < s.heap.size ∧ ∃ (x : Cell) (u sen : RefV), T2.heap[T.aS]? = some x ∧ x.vm ≠ .unknown ∧ x.slots[T.fUnassigned.slot]? = some u.v ∧ x.slots[T.fSentinel.slot]? = some sen.v := by
  obtain ⟨x0, at0, is0⟩ := Y.statics
  obtain ⟨u, hu⟩ := Cond.staticRefV Y.unassigned L.unassignedStatic L.statics at0 is0 hUn
  obtain ⟨sen, hn⟩ := Cond.staticRefV Y.sentinel L.sentinelStatic L.statics at0 is0 hSe
  obtain ⟨x, at1, vm1, -, all1⟩ := hs.2.2.2.2.2 T.aS x0 at0
  refine ⟨(Array.getElem?_eq_some_iff.mp at0).1, x, u, sen, at1, fun hx => ?_, (all1 _ List.not_mem_nil).trans hu, (all1 _ List.not_mem_nil).trans hn⟩
  rw [← congrArg Cell.vm vm1, hx] at is0
  exact Bool.noConfusion is0
set_option maxHeartbeats 1000000 in
/-- from the call of the constructor to the throw: the library's ctorMessageOffV and athrowLeaves, over the three constructors of nx_three -/
theorem nx_ctor (X : Stand p l e R s m₀ args below meth c T1 [] cells slots) (hexec : p.tables.exec = Jvm.exec) (htr : e.platform.stackTraces = false)
    (hown : s.vm.findClass RX10 = some m₀.cls) (hT : ∀ w ∈ Bundle.throwableAtoms, w.before args s = true) (hTS : ∀ w ∈ Bundle.throwableSAtoms, w.before args s = true) (hPs : ∀ w ∈ Bundle.passSAtoms nxE nxR 13 nxB, w.before args s = true) (hCs : ∀ w ∈ Bundle.chainSAtoms nxR [nxX], w.before args s = true) (hZs : ∀ w ∈ nxZ, w.before args s = true)
    (hUn : (Cond.isRef (.static Bundle.tN "UNASSIGNED_STACK" Bundle.steD)).before args s = true) (hSe : (Cond.isRef (.static Bundle.tN "SUPPRESSED_SENTINEL" Bundle.listD)).before args s = true)
    {a : Addr} {q : ClassId} {k : Class} (hq : s.vm.findClass nxE = some q) (hk : s.vm.classes[q]? = some k) (hcell : T1.heap[a]? = some (freshCell q k)) (hnew : s.heap.size ≤ a)
    {msg : Value} (hmsg : msg.isRef = true)
    {g : JFrame} (hg : g.method = m₀) (hsize : g.locals.size = c.maxLocals) (hlocked : g.locked = none) (hentered : g.entered = []) {rest : List Value} (hstack : g.stack = msg :: .ref a :: .ref a :: rest)
    (hcall : decode c.code g.pc = .ok (.invokespecial 257, 3)) (hthrow : decode c.code (g.pc + 3) = .ok (.athrow, 1)) (hout : ∀ x ∈ c.exceptionTable.toList, covers x (g.pc + 3) = false)
    (hRframes : 5 < R.frames) (hRlocals : 2 * g.monitorRoom + ((Value.ref a :: rest).map fun v => v.category).sum + 81 ≤ R.locals) (hlocks : meth.locks = false) :
    ∃ U : State, Steps p.tables e below (T1.setTop g) U ∧ U.status = .running ∧ Ended U below (.threw a) ∧ s.WarmedH U.vm ∧ s.sameButNew ({ U with vm := s.vm } : State) [] cells slots ∧
      ∃ ce, U.heap[a]? = some ce ∧ ce.vm = .none ∧ s.vm.findClass nxE = some ce.cls := by
  have hpl : e.platform.magicAccessors = ({} : Platform).magicAccessors := (congrArg Platform.magicAccessors X.admits.platform).trans rfl
  obtain ⟨T, Z0, L, -, Y⟩ := ThrowableC.of_atoms ((congrArg Platform.frameOwnsMonitors X.admits.platform).trans rfl) ((congrArg Platform.finalization X.admits.platform).trans rfl) hpl hT
  obtain ⟨Z, M, LZ, LM, hZ⟩ := Init0T.ofS_atoms hpl L Y hTS
  obtain ⟨Ps, len, hL, hon, hfirst⟩ := nx_three hpl hZ hPs hCs
  obtain ⟨hlt, x, u, sen, hx, hxk, hxu, hxs⟩ := nx_statics L Y hUn hSe X.same
  obtain ⟨t1, t2, t3, t4, hskip⟩ := nx_fields hpl L Y hZs hq hk a u sen ⟨msg, hmsg⟩ T1.cur
  -- the call
  obtain ⟨tm, -, -, -, vm1, hn, -, -, -, -, -, -, -, hW1, call⟩ := Steps.initColdS X.here hexec X.warmed hpl hown (t := Bundle.initS nxE) rfl rfl (by decide) (hZs _ (List.mem_cons_self ..)) (hPs (.instanceMethod (Bundle.initS nxE)) (by simp [Bundle.passSAtoms]))
    (hPs (.code (Bundle.initS nxE) nxB 2 none) (by simp [Bundle.passSAtoms])) hg hstack hcall
  have htm : tm = firstOf (Z.m T.toThrowableT) (Ps.map (·.toPassT)) := Option.some.inj (hn.symm.trans hfirst)
  -- what it does
  obtain ⟨vm2, X2, body⟩ := (X.noted hW1).ctorMessageOffV hexec (g := { g with stack := .ref a :: rest }) hg hsize T L Z LZ M LM Ps hL hon hmsg hcell (fun _ h => nomatch h) (fun h => nomatch h) rfl rfl
    (nx_same X.admits hq Y.fill0 (State.methodFound?_of_named Y.fill0 (by decide)) (hZs _ (by simp [nxZ]))) (nx_same X.admits hq Y.fill (State.methodFound?_of_named Y.fill (by decide)) (hZs _ (by simp [nxZ])))
    hx (Nat.ne_of_lt (Nat.lt_of_lt_of_le hlt hnew)) hxk hxu hxs t1 t2 t3 t4 Y.objLocals hskip htr [] hcall (by rw [len]; exact hRframes) (by rw [len]; exact hRlocals)
  -- the throw
  obtain ⟨leave, run, over, warm, same⟩ := X2.athrowLeaves hexec (g := { g with stack := .ref a :: rest, pc := g.pc + 3 }) hg hlocked hentered hout rfl hthrow hlocks
  refine ⟨_, call _ fun acts => ?_, run, over, warm, same.weaken (l' := []) ?_ (Nat.le_refl _) (Nat.le_refl _), _, heapAt_setCell_self _ (Array.getElem?_eq_some_iff.mp hcell).1, rfl, hq⟩
  · rw [doInvoke_state, htm]
    exact body _ leave
  · -- all that the constructor writes lies in the new object
    have hall : ∀ y ∈ [(⟨a, T.fCause.slot⟩ : Loc), ⟨a, T.fStack.slot⟩, ⟨a, T.fSupp.slot⟩, ⟨a, T.fStack.slot⟩, ⟨a, T.fMsg.slot⟩], s.heap.size ≤ y.base := by
      simp only [List.forall_mem_cons]
      exact ⟨hnew, hnew, hnew, hnew, hnew, fun _ h => nomatch h⟩
    exact fun y hy hb => absurd hb (Nat.not_lt.mpr (hall y hy))
end Ctor
section Throw
variable {p : Program} {l : Launch} {e : Env} {R : Room} {s : State} {m : MethodId} {args : Array Value} {below : List Frame} {meth : Method} {c : Code} {H : Heap} {locs : List Loc} {cells slots mc ms : Nat} {free : Addr → Prop} {ls : Array Slot} {rest : List Value} {Qc : Array Value → State → Outcome → State → Prop} {XC : String → State → State → Prop}
theorem nx_throw {cc : ByteArray} {pc : Nat} (hexec : p.tables.exec = Jvm.exec) (hb : c.code = cc) (hl : l.stackTraces = false) {text : String} {is sa : Nat} {A : Nat → Prop}
    (hown : s.vm.findClass RX10 = some m.cls) (hgw : ∀ w ∈ gw, w.before args s = true) (hstr : vk_R RX10 is text sa s)
    {g : gT} (hST : ST g s s.heap) (hA0 : ∀ a, A a → g.2 4 ≤ a) (hS : va_S A s.heap H locs) (hsize : ls.size = c.maxLocals)
    (d0 : decode cc pc = .ok (.new 253, 3)) (d3 : decode cc (pc + 3) = .ok (.dup, 1)) (d4 : decode cc (pc + 4) = .ok (.ldc is, 2)) (d6 : decode cc (pc + 6) = .ok (.invokespecial 257, 3)) (d9 : decode cc (pc + 9) = .ok (.athrow, 1))
    (hout : ∀ x ∈ c.exceptionTable.toList, covers x (pc + 9) = false)
    (hRframes : 5 < R.frames) (hRlocals : (rest.map fun v => v.category).sum + 82 ≤ R.locals) (hRcells : cells + 1 ≤ R.cells) (hRslots : slots + 6 ≤ R.slots) (hlocks : meth.locks = false)
    (hx : ∀ t : State, s.vm.Alike t.vm → H.size ≤ t.heap.size → (∀ q : Nat, q < H.size → t.heap[q]? = H[q]?) → XC nxE s t)
    (hf : ∀ z ∈ locs, free z.base) (hc : cells + 1 ≤ mc) (hs : slots + 6 ≤ ms) :
    W p l e R s m args below meth c H locs cells slots (vx_MQ below Qc XC args s mc ms free) (F0 m pc ls rest) := by
  intro T hT X
  have htr : e.platform.stackTraces = false := (show e.platform.stackTraces = l.stackTraces by rw [X.admits.platform]).trans hl
  have Y := vx_rebase X (R' := { frames := R.frames, locals := R.locals, cells := 1, slots := 6 }) (Nat.le_refl _) (Nat.le_refl _) hRcells hRslots
  obtain ⟨s', hA⟩ : ∃ z, z = (T.setVm s.vm).setFrames (.invoking m args :: below) := ⟨_, rfl⟩
  rw [← hA] at Y
  have hvm : s'.vm = s.vm := by rw [hA]; rfl
  have hhp : s'.heap = H := by rw [hA]; exact hT
  have hW0 : s.WarmedH s'.vm := by rw [hvm]; exact State.WarmedH.refl s
  have hg' : ∀ w ∈ gw, w.before args s' = true := fun w hw => word_at hW0 (good_of_word (gw_good w hw)) (hgw w hw)
  obtain ⟨hU', hN', hD0⟩ := hST.at hA0 hS hhp hW0
  have hD' : ∀ w ∈ nxD, w.before args s' = true := fun w hw => va_tabs (nxD_ok w hw).1 rfl (hD0 w hw)
  have hTw : ∀ w ∈ Bundle.throwableAtoms, w.before args s' = true := vx_own (fun w hw => hg' w (nx_T w hw)) (vx_isRefq hU'.1) (vx_isRefq hN'.1) hU'.2.word hN'.2.word
  have hown' : s'.vm.findClass RX10 = some m.cls := by rw [hvm]; exact hown
  obtain ⟨vm₁, cX, kX, hfX, hkX, -, -, X₁, st1⟩ := Y.newCold hexec (own := RX10) (C := nxE) (index := 253) (n := 6) hown' (hg' _ nx_link) (hg' _ (nx_Z _ (by simp [nxZ]))) (hg' _ nx_ini)
    (g := F0 m pc ls rest) rfl (by rw [hb]; exact d0) (Nat.le_refl _) (Nat.le_refl _)
  generalize hT1 : (T.setVm vm₁).pushCell { cls := cX, slots := kX.instanceTypes.map defaultValue, vm := .none } = T1 at X₁ st1
  have hcat : (Value.ref T.heap.size).category = 1 := rfl
  have hcellA : T1.heap[T.heap.size]? = some (freshCell cX kX) := by rw [← hT1]; exact State.heap_pushCell_size _ _
  have d3' : decode c.code (pc + 3) = .ok (.dup, 1) := by rw [hb]; exact d3
  have d4' : decode c.code (pc + 4) = .ok (.ldc is, 2) := by rw [hb]; exact d4
  have hstr' : vk_R RX10 is text sa s' := vk_R.warm hW0 hstr
  obtain ⟨U, hsteps, hrun, hend, hW, hsame, ce, hce, hcv, hcl0⟩ := nx_ctor X₁ hexec htr hown' hTw (fun w hw => hg' w (nx_TS w hw)) (vx_hat (fun w hw => hg' w (nx_P w hw)) nx_PD hD') (vx_hat (fun w hw => hg' w (nx_C w hw)) nx_CD hD') (fun w hw => hg' w (nx_Z w hw)) (vx_isRefq hU'.1) (vx_isRefq hN'.1) hfX hkX hcellA (by rw [hhp, hT]; exact Nat.le_refl _) (msg := .ref sa) rfl
    (g := { method := m, pc := pc + 6, locals := ls, stack := .ref sa :: .ref T.heap.size :: .ref T.heap.size :: rest, locked := none }) rfl hsize rfl rfl (rest := rest) rfl
    (by rw [hb]; exact d6) (by rw [hb]; exact d9) hout hRframes (by simp only [List.map_cons, List.sum_cons, hcat]; omega) hlocks
  obtain ⟨f1, f2⟩ := vx_frame hsame
  rw [hhp] at f1 f2
  have hWs : s.WarmedH U.vm := State.WarmedH.trans hW0 hW
  have hcl : s.vm.findClass nxE = some ce.cls := by rw [hvm] at hcl0; exact hcl0
  have hall : s.sameButNew ({ U with vm := s.vm } : State) locs mc ms := by
    subst hA
    obtain ⟨e1, e2⟩ := hsame
    rw [State.setFrames_setFrames] at e1
    have h2 : (T.setVm s.vm).sameButNew ({ U with vm := s.vm } : State) [] (0 + 1) (0 + 6) := ⟨e1, e2⟩
    have h3 := X.same.trans h2
    rw [List.append_nil] at h3
    exact h3.mono hc hs
  refine ⟨U, ?_, .threw T.heap.size, hrun, hend, Or.inr ⟨T.heap.size, rfl, nxE, ce, locs, hx U hWs.alike f1 (fun q hq => f2 q hq (fun z hz => nomatch hz)), hce, hcv, hcl, hWs, hall, hf⟩⟩
  refine st1 _ ?_
  show Steps p.tables e below (T1.setTop { method := m, pc := pc + 3, locals := ls, stack := .ref T.heap.size :: rest, locked := none }) _
  jvm_step X₁.here [X₁.here.top, hexec, d3', Value.category]
  exact X₁.ldcString hexec (own := RX10) (text := text) (index := is) (a := sa) hown' hstr'.1 hstr'.2
    (g := { method := m, pc := pc + 4, locals := ls, stack := .ref T.heap.size :: .ref T.heap.size :: rest, locked := none }) rfl d4' _ hsteps
end Throw
end NSEE
