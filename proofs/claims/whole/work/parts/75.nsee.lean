/-! ===== new NoSuchElementException(text), thrown: its constructor's link differs from the kit's chain (13, not 7) ===== -/
section NSEE
abbrev nxE : String := "java/util/NoSuchElementException"
abbrev nxR : String := "java/lang/RuntimeException"
abbrev nxX : String := "java/lang/Exception"
abbrev nxB : ByteArray := prog_31_method_4_code
theorem nxB_0 : decode nxB 0 = .ok (.aload_n 0, 1) := by decide +kernel
theorem nxB_1 : decode nxB 1 = .ok (.aload_n 1, 1) := by decide +kernel
theorem nxB_2 : decode nxB 2 = .ok (.invokespecial 13, 3) := by decide +kernel
theorem nxB_5 : decode nxB 5 = .ok (.return_, 1) := by decide +kernel
def nxZ : List Cond := [.methodLink RX10 257 (Bundle.initS nxE), .instantiable nxE 6, .selects nxE Bundle.tFill0 Bundle.tFill0, .selects nxE Bundle.tFill Bundle.tFill,
  .lays nxE Bundle.tN "cause" "Ljava/lang/Throwable;", .lays nxE Bundle.tN "stackTrace" Bundle.steD, .lays nxE Bundle.tN "suppressedExceptions" Bundle.listD, .lays nxE Bundle.tN "detailMessage" "Ljava/lang/String;",
  .fieldLink Bundle.tN 198 Bundle.tN "backtrace" "Ljava/lang/Object;", .lays Bundle.tN Bundle.tN "backtrace" "Ljava/lang/Object;", .lays nxE Bundle.tN "backtrace" "Ljava/lang/Object;"]
/-- words by their places in the tables -/
theorem nx_pl {L : List Cond} (ps : List (Nat × Nat)) (h : L = ps.filterMap (fun q => if q.1 = 1 then tables_1_1[q.2]? else tables_1_5[q.2]?)) (hg : L.all goodWord = true) : ∀ w ∈ L, w ∈ gw := by
  intro w hw
  have h1 := List.all_eq_true.mp hg w hw
  rw [h] at hw
  obtain ⟨q, -, hq⟩ := List.mem_filterMap.mp hw
  split at hq
  · exact tg_1 (List.mem_of_getElem? hq) h1
  · exact tg_5 (List.mem_of_getElem? hq) h1
theorem nx_T : ∀ w ∈ Bundle.throwableAtoms.filter vx_no, w ∈ gw := nx_pl [(1, 19), (5, 34), (5, 43), (5, 45), (5, 48), (5, 50), (5, 35), (5, 36), (1, 30), (1, 31), (5, 37), (5, 42), (5, 46), (5, 66), (5, 24), (5, 67), (5, 26), (5, 68), (5, 28), (5, 38), (5, 40), (5, 30)] (by decide +kernel) (by decide +kernel)
theorem nx_TS : ∀ w ∈ Bundle.throwableSAtoms, w ∈ gw := nx_pl [(5, 62), (5, 63), (5, 65), (5, 30)] (by decide +kernel) (by decide +kernel)
theorem nx_P : ∀ w ∈ (Bundle.passSAtoms nxE nxR 13 nxB).filter goodWord, w ∈ gw := nx_pl [(5, 53), (5, 54), (5, 55), (5, 56)] (by decide +kernel) (by decide +kernel)
theorem nx_C : ∀ w ∈ (Bundle.chainSAtoms nxR [nxX]).filter goodWord, w ∈ gw := nx_pl [(5, 56), (5, 57), (5, 58), (5, 59), (5, 59), (5, 60), (5, 61), (5, 62)] (by decide +kernel) (by decide +kernel)
/-- words that are no good words, carried by themselves -/
def nxD : List Cond := [.declares (Bundle.initS nxR), .declares (Bundle.initS nxX), .declares (Bundle.initS Bundle.tN), .castable nxE nxE]
theorem nx_PD : ∀ w ∈ (Bundle.passSAtoms nxE nxR 13 nxB).filter (fun w => !goodWord w), w ∈ nxD := by decide +kernel
theorem nx_CD : ∀ w ∈ (Bundle.chainSAtoms nxR [nxX]).filter (fun w => !goodWord w), w ∈ nxD := by decide +kernel
theorem nxD_ok : ∀ w ∈ nxD, w.onTables = true ∧ w.keepsFace = true := by decide +kernel
theorem face_at {w : Cond} {args a' : Array Value} {s U : State} (ho : w.onTables = true) (hk : w.keepsFace = true) (hW : s.WarmedH U.vm) (h : w.before args s = true) : w.before a' U = true := by
  have h1 : w.before args (s.setVm U.vm) = true := Cond.before_shiftedFace (State.Shifted.of_warmed hW) _ hk h
  rw [Cond.onTables_vm (A' := a') (U' := U) U.vm w ho] at h1
  rwa [State.setVm_self] at h1
/-- what a throw needs, beside the good words -/
def ST (g : gT) (U : State) (H : Heap) : Prop := vx_Zq Bundle.tN "UNASSIGNED_STACK" Bundle.steD (gB g) U H ∧ vx_Zq Bundle.tN "SUPPRESSED_SENTINEL" Bundle.listD (gB g) U H ∧ ∀ w ∈ nxD, va_Nw w U
theorem ST.at {g : gT} {A0 : Nat → Prop} {s U : State} {H : Heap} {locs : List Loc} (h : ST g s s.heap) (hA : ∀ a, A0 a → g.2 4 ≤ a) (hS : va_S A0 s.heap H locs) (hU : U.heap = H) (hW : s.WarmedH U.vm) : ST g U U.heap := by
  obtain ⟨h1, h2, h3⟩ := h
  have hq : ∀ a : Nat, a < s.heap.size → ¬ gB g a → H[a]? = s.heap[a]? := fun a ha hn => hS.2.1 a ha (fun z => hn (hA a z))
  rw [hU]
  exact ⟨(h1.moved hW.alike).kept hq, (h2.moved hW.alike).kept hq, fun w hw => face_at (nxD_ok w hw).1 (nxD_ok w hw).2 hW (h3 w hw)⟩
theorem ST.blind {g : gT} {U : State} (h : ST g U U.heap) (f : JFrame) (mk : MethodId) (a : Array Value) : ST g (U.calling f mk a) (U.calling f mk a).heap :=
  ⟨vx_Zq.moved (u := U) (U := U.calling f mk a) (Vm.Alike.refl U.vm) h.1, vx_Zq.moved (u := U) (U := U.calling f mk a) (Vm.Alike.refl U.vm) h.2.1, fun w hw => va_tabs (nxD_ok w hw).1 (show U.vm = (U.calling f mk a).vm from rfl) (h.2.2 w hw)⟩
theorem nx_Z : ∀ w ∈ nxZ, w ∈ gw := nx_pl [(5, 52), (5, 13), (5, 21), (5, 22), (5, 23), (5, 25), (5, 27), (5, 29), (5, 33), (5, 32), (5, 31)] (by decide +kernel) (by decide +kernel)
theorem nx_link : Cond.classLink RX10 253 nxE ∈ gw := tg_5 (List.mem_of_getElem? (i := 12) rfl) rfl
theorem nx_linkL : Cond.classLink RL 13 nxE ∈ gw := tg_5 (List.mem_of_getElem? (i := 7) rfl) rfl
theorem nx_ini : Cond.initialized nxE ∈ gw := tg_1 (List.mem_of_getElem? (i := 22) rfl) rfl
theorem nx_cw : Cond.codeWith yL_told cL_told 5 (some .int) [(0, 10, 13, 13)] ∈ gw := tg_5 (List.mem_of_getElem? (i := 6) rfl) rfl
section Ctor
variable {p : Program} {l : Launch} {e : Env} {R : Room} {s : State} {m₀ : MethodId} {args : Array Value} {below : List Frame} {meth : Method} {c : Code} {T1 : State} {cells slots : Nat}
set_option maxHeartbeats 1000000 in
/-- follows the library's proof for chains of one link number (BundleOwnThrow), the first link told apart -/
theorem nx_ctor (X : Stand p l e R s m₀ args below meth c T1 [] cells slots) (hexec : p.tables.exec = Jvm.exec) (htr : e.platform.stackTraces = false)
    (hown : s.vm.findClass RX10 = some m₀.cls) (hT : ∀ w ∈ Bundle.throwableAtoms, w.before args s = true) (hTS : ∀ w ∈ Bundle.throwableSAtoms, w.before args s = true) (hPs : ∀ w ∈ Bundle.passSAtoms nxE nxR 13 nxB, w.before args s = true) (hCs : ∀ w ∈ Bundle.chainSAtoms nxR [nxX], w.before args s = true) (hZs : ∀ w ∈ nxZ, w.before args s = true)
    (hUn : (Cond.isRef (.static Bundle.tN "UNASSIGNED_STACK" Bundle.steD)).before args s = true) (hSe : (Cond.isRef (.static Bundle.tN "SUPPRESSED_SENTINEL" Bundle.listD)).before args s = true)
    {a : Addr} {cX : ClassId} {kX : Class} (hfoundX : s.vm.findClass nxE = some cX) (hkX : s.vm.classes[cX]? = some kX) (hcell : T1.heap[a]? = some (freshCell cX kX)) (hnew : s.heap.size ≤ a)
    {msg : Value} (hmsg : msg.isRef = true)
    {g : JFrame} (hg : g.method = m₀) (hsize : g.locals.size = c.maxLocals) (hlocked : g.locked = none) (hentered : g.entered = []) {rest : List Value} (hstack : g.stack = msg :: .ref a :: .ref a :: rest)
    (hd6 : decode c.code g.pc = .ok (.invokespecial 257, 3)) (hd9 : decode c.code (g.pc + 3) = .ok (.athrow, 1)) (hout : ∀ x ∈ c.exceptionTable.toList, covers x (g.pc + 3) = false)
    (hRframes : 5 < R.frames) (hRlocals : 2 * g.monitorRoom + ((Value.ref a :: rest).map fun v => v.category).sum + 81 ≤ R.locals) (hlocks : meth.locks = false) :
    ∃ U : State, Steps p.tables e below (T1.setTop g) U ∧ U.status = .running ∧ Ended U below (.threw a) ∧ s.WarmedH U.vm ∧ s.sameButNew ({ U with vm := s.vm } : State) [] cells slots ∧
      ∃ ce, U.heap[a]? = some ce ∧ ce.vm = .none ∧ s.vm.findClass nxE = some ce.cls := by
  have howns : e.platform.frameOwnsMonitors = true := by rw [X.admits.platform]
  have hfin : e.platform.finalization = false := by rw [X.admits.platform]
  have hpl : e.platform.magicAccessors = ({} : Platform).magicAccessors := by rw [X.admits.platform]
  have z : ∀ {w : Cond}, w ∈ nxZ → w.holds args s none s [] = true := fun hx => hZs _ hx
  obtain ⟨T, Z0, L, -, Y⟩ := ThrowableC.of_atoms (args := args) howns hfin hpl hT
  obtain ⟨Z, M, LZ, LM, hnZ⟩ := Init0T.ofS_atoms (args := args) hpl L Y hTS
  obtain ⟨P2, Ps, hlen, L2, hL2, hP2m, hlink2, hlink⟩ := Bundle.chainS (args := args) hpl hnZ [nxX] nxR (by decide) (by decide) hCs
  obtain ⟨P1, L1, hP1m, hP1s⟩ := PassC.ofS_atoms (args := args) (s := s) hpl (X := nxE) (Y := nxR) (by decide) (by decide) nxB_0 nxB_1 nxB_2 nxB_5 hPs
  have hfound : s.vm.findClass nxE = some P1.m.cls := findClass_of_methodNamed hP1m
  cases Option.some.inj (hfoundX.symm.trans hfound)
  obtain ⟨c1, kX', hc1, hk, hord, -, -, hn6⟩ := Cond.instantiable_spec (z (w := .instantiable nxE 6) (by simp [nxZ]))
  cases Option.some.inj (hc1.symm.trans hfound)
  cases Option.some.inj (hkX.symm.trans hk)
  have hsel0 : selectMethod e.platform s.vm P1.m.cls T.fill0 = .method T.fill0 := by
    obtain ⟨c2, r2, m2, q1, q2, q3, q4, -⟩ := Cond.selects_spec (z (w := .selects nxE Bundle.tFill0 Bundle.tFill0) (by simp [nxZ]))
    cases Option.some.inj (q1.symm.trans hfound)
    cases Option.some.inj (q2.symm.trans (State.methodFound?_of_named Y.fill0 (by decide)))
    cases Option.some.inj (q3.symm.trans Y.fill0)
    rw [Launch.admits_selectMethod X.admits]; exact q4
  have hselF : selectMethod e.platform s.vm P1.m.cls T.fill = .method T.fill := by
    obtain ⟨c2, r2, m2, q1, q2, q3, q4, -⟩ := Cond.selects_spec (z (w := .selects nxE Bundle.tFill Bundle.tFill) (by simp [nxZ]))
    cases Option.some.inj (q1.symm.trans hfound)
    cases Option.some.inj (q2.symm.trans (State.methodFound?_of_named Y.fill (by decide)))
    cases Option.some.inj (q3.symm.trans Y.fill)
    rw [Launch.admits_selectMethod X.admits]; exact q4
  obtain ⟨cellS0, hcS0, hiss⟩ := Y.statics
  obtain ⟨u0, hu0⟩ := Cond.staticRefV Y.unassigned L.unassignedStatic L.statics hcS0 hiss hUn
  obtain ⟨sen, hsen⟩ := Cond.staticRefV Y.sentinel L.sentinelStatic L.statics hcS0 hiss hSe
  obtain ⟨ci198, i198, fB, hk198, hg198, ha198, hsB, -, hnB, htB, hffB⟩ := Cond.ownField (t := .object "java/lang/Object") Y.found L.cls (by decide +kernel) (z (w := .fieldLink Bundle.tN 198 Bundle.tN "backtrace" "Ljava/lang/Object;") (by simp [nxZ])) (z (w := .lays Bundle.tN Bundle.tN "backtrace" "Ljava/lang/Object;") (by simp [nxZ])) e.platform hpl
  obtain ⟨cellS, hcS', heS, -, hkeep⟩ := X.same.2.2.2.2.2 T.aS cellS0 hcS0
  have hcellS : T1.heap[T.aS]? = some cellS := hcS'
  have hknownS : cellS.vm ≠ .unknown := by
    rw [heS]; intro hu
    rw [show cellS0.vm = .unknown from hu] at hiss
    cases hiss
  have hneS : T.aS ≠ a := Nat.ne_of_lt (Nat.lt_of_lt_of_le (Array.getElem?_eq_some_iff.mp hcS0).1 hnew)
  obtain ⟨iM, hffM⟩ := Y.msg
  obtain ⟨tyC, dC, hdC, hdnC⟩ := Cond.laysAt hfound hk Y.cause (z (w := .lays nxE Bundle.tN "cause" "Ljava/lang/Throwable;") (by simp [nxZ]))
  obtain ⟨tyS, dS, hdS, hdnS⟩ := Cond.laysAt hfound hk Y.stack (z (w := .lays nxE Bundle.tN "stackTrace" Bundle.steD) (by simp [nxZ]))
  obtain ⟨tyP, dP, hdP, hdnP⟩ := Cond.laysAt hfound hk Y.supp (z (w := .lays nxE Bundle.tN "suppressedExceptions" Bundle.listD) (by simp [nxZ]))
  obtain ⟨tyM, dM, hdM, hdnM⟩ := Cond.laysAt hfound hk hffM (z (w := .lays nxE Bundle.tN "detailMessage" "Ljava/lang/String;") (by simp [nxZ]))
  obtain ⟨tyB, dB, hdB, hdnB⟩ := Cond.laysAt hfound hk hffB (z (w := .lays nxE Bundle.tN "backtrace" "Ljava/lang/Object;") (by simp [nxZ]))
  have bC := Cond.laysApart hdB hdC hdnB hdnC (by rw [hnB, Y.causeName]; decide)
  have bS := Cond.laysApart hdB hdS hdnB hdnS (by rw [hnB, Y.stackName]; decide)
  have bP := Cond.laysApart hdB hdP hdnB hdnP (by rw [hnB, Y.suppName]; decide)
  have hskip : SkipFacts T e.platform s (fun u => u) u0 ((preparedCellV T.toThrowableT (freshCell P1.m.cls kX) a u0 sen).withEntry T1.cur) :=
    ⟨{ ci198 := ci198, i198 := i198, fBack := fB }, ⟨hk198, hg198, ha198, hsB⟩, by
      have := fresh_default (c := P1.m.cls) tyB
      rw [htB] at this
      simpa [preparedCellV, Cell.setSlot, Cell.withEntry, Array.getElem?_setIfInBounds, bC, bS, bP, bC.symm, bS.symm, bP.symm, defaultValue] using this, fun _ _ => rfl⟩
  obtain ⟨tm, methC, cdC, kC, vm₁, hnC, -, -, -, -, -, -, -, hW₁, st1⟩ := Steps.initColdS (tb := p.tables) (e := e) (below := below) (s := s) (U := T1) X.here hexec X.warmed hpl hown (t := Bundle.initS nxE) rfl rfl (by decide)
    (z (w := .methodLink RX10 257 (Bundle.initS nxE)) (by simp [nxZ])) (hPs (.instanceMethod (Bundle.initS nxE)) (by simp [Bundle.passSAtoms])) (bytes := nxB) (maxL := 2) (hPs (.code (Bundle.initS nxE) nxB 2 none) (by simp [Bundle.passSAtoms]))
    (f := g) hg (a := a) (msg := msg) (rest := .ref a :: rest) hstack hd6
  cases Option.some.inj (hnC.symm.trans hP1m)
  have X₁ := X.noted hW₁
  have hsup : P1.sup = P2.m := Option.some.inj (hP1s.symm.trans hP2m)
  obtain ⟨vm₂, X₂, st2⟩ := X₁.ctorMessageOffV hexec (g := { g with stack := .ref a :: rest }) hg hsize T L Z LZ M LM (P1 :: P2 :: Ps)
    (fun P hP => by rcases List.mem_cons.mp hP with rfl | hP; exact L1; rcases List.mem_cons.mp hP with rfl | hP; exact L2; exact hL2 P hP) ⟨hsup, hlink2, hlink⟩ (u0 := u0) (sen := sen) (self := a) hmsg (cell := freshCell P1.m.cls kX) (cellS := cellS)
    hcell (fun _ => by simp) (by simp) rfl rfl hsel0 hselF hcellS hneS hknownS (by rw [hkeep _ (fun h => nomatch h)]; exact hu0) (by rw [hkeep _ (fun h => nomatch h)]; exact hsen)
    (Takes.of_laid hk hord tyC (by rw [Y.causeType]; rfl)) (Takes.of_laid hk hord tyS (by rw [Y.stackType]; exact fits_refV_array _ u0)) (Takes.of_laid hk hord tyP (by rw [Y.suppType]; exact fits_refV_object _ sen))
    (Takes.of_laid hk hord tyM (by rw [Y.msgType]; exact fits_refV_object _ ⟨msg, hmsg⟩)) Y.objLocals hskip htr [] hd6
    (by simp only [List.length_cons, hlen, List.length_nil]; omega) (by simp only [List.length_cons, hlen, List.length_nil]; exact hRlocals)
  obtain ⟨hwalk, hrun, hended, hWU, hsame⟩ := X₂.athrowLeaves hexec (g := { g with stack := .ref a :: rest, pc := g.pc + 3 }) hg hlocked hentered hout (a := a) (rest := rest) rfl hd9
  have hlt : a < ((T1.setVm vm₁).setVm vm₂).heap.size := (Array.getElem?_eq_some_iff.mp hcell).1
  have hU := heapAt_setCell_self (s := (T1.setVm vm₁).setVm vm₂) (plainBareV T.toThrowableT (freshCell P1.m.cls kX) a u0 sen msg) hlt
  refine ⟨_, st1 _ (fun acts => ?_), hrun, hended, hWU, hsame.weaken (fun y hy hlt' => ?_) (Nat.le_refl _) (Nat.le_refl _), _, hU, rfl, hfound⟩
  · rw [doInvoke_state]
    exact st2 _ hwalk
  · rcases List.mem_append.mp hy with h1 | h1
    · exact h1
    · exfalso
      have hb : y.base = a := by
        simp only [List.mem_cons, List.not_mem_nil, or_false] at h1
        rcases h1 with rfl | rfl | rfl | rfl | rfl <;> rfl
      rw [hb] at hlt'
      exact Nat.not_lt.mpr hnew hlt'
end Ctor
section Throw
variable {p : Program} {l : Launch} {e : Env} {R : Room} {s : State} {m : MethodId} {args : Array Value} {below : List Frame} {meth : Method} {c : Code} {H : Heap} {locs : List Loc} {cells slots mc ms : Nat} {free : Addr → Prop} {ls : Array Slot} {rest : List Value} {Qc : Array Value → State → Outcome → State → Prop} {XC : String → State → State → Prop}
theorem nx_throw {cc : ByteArray} {pc : Nat} (hexec : p.tables.exec = Jvm.exec) (hb : c.code = cc) (hl : l.stackTraces = false) {text : String} {is sa : Nat} {A : Nat → Prop}
    (hown : s.vm.findClass RX10 = some m.cls) (hgw : ∀ w ∈ gw, w.before args s = true) (hstr : vk_R RX10 is text sa s)
    {g : gT} (hST : ST g s s.heap) (hA0 : ∀ a, A a → g.2 4 ≤ a) (hS : va_S A s.heap H locs) (hsize : ls.size = c.maxLocals)
    (d0 : decode cc pc = .ok (.new 253, 3)) (d3 : decode cc (pc + 3) = .ok (.dup, 1)) (d4 : decode cc (pc + 4) = .ok (.ldc is, 2)) (d6 : decode cc (pc + 6) = .ok (.invokespecial 257, 3)) (d9 : decode cc (pc + 9) = .ok (.athrow, 1))
    (hout : ∀ x ∈ c.exceptionTable.toList, covers x (pc + 9) = false)
    (hRframes : 5 < R.frames) (hRlocals : (rest.map fun v => v.category).sum + 82 ≤ R.locals) (hRcells : cells + 1 ≤ R.cells) (hRslots : slots + 6 ≤ R.slots) (hlocks : meth.locks = false)
    (hx : ∀ t : State, s.vm.Alike t.vm → H.size ≤ t.heap.size → (∀ q : Nat, q < H.size → t.heap[q]? = H[q]?) → XC nxE s t)
    (hf : ∀ z ∈ locs, free z.base) (hc : cells + 1 ≤ mc) (hs : slots + 6 ≤ ms) :
    W p l e R s m args below meth c H locs cells slots (vx_MQ below Qc XC args s mc ms free) (F0 m pc ls rest) := by
  intro T hT X
  have htr : e.platform.stackTraces = false := (show e.platform.stackTraces = l.stackTraces by rw [X.admits.platform]).trans hl
  have Y := vx_rebase X (R' := { frames := R.frames, locals := R.locals, cells := 1, slots := 6 }) (Nat.le_refl _) (Nat.le_refl _) hRcells hRslots
  obtain ⟨s', hA⟩ : ∃ z, z = (T.setVm s.vm).setFrames (.invoking m args :: below) := ⟨_, rfl⟩
  rw [← hA] at Y
  have hvm : s'.vm = s.vm := by rw [hA]; rfl
  have hhp : s'.heap = H := by rw [hA]; exact hT
  have hW0 : s.WarmedH s'.vm := by rw [hvm]; exact State.WarmedH.refl s
  have hg' : ∀ w ∈ gw, w.before args s' = true := fun w hw => word_at hW0 (good_of_word (gw_good w hw)) (hgw w hw)
  obtain ⟨hU', hN', hD0⟩ := hST.at hA0 hS hhp hW0
  have hD' : ∀ w ∈ nxD, w.before args s' = true := fun w hw => va_tabs (nxD_ok w hw).1 rfl (hD0 w hw)
  have hTw : ∀ w ∈ Bundle.throwableAtoms, w.before args s' = true := vx_own (fun w hw => hg' w (nx_T w hw)) (vx_isRefq hU'.1) (vx_isRefq hN'.1) hU'.2.word hN'.2.word
  have hown' : s'.vm.findClass RX10 = some m.cls := by rw [hvm]; exact hown
  obtain ⟨vm₁, cX, kX, hfX, hkX, -, -, X₁, st1⟩ := Y.newCold hexec (own := RX10) (C := nxE) (index := 253) (n := 6) hown' (hg' _ nx_link) (hg' _ (nx_Z _ (by simp [nxZ]))) (hg' _ nx_ini)
    (g := F0 m pc ls rest) rfl (by rw [hb]; exact d0) (Nat.le_refl _) (Nat.le_refl _)
  generalize hT1 : (T.setVm vm₁).pushCell { cls := cX, slots := kX.instanceTypes.map defaultValue, vm := .none } = T1 at X₁ st1
  have hcat : (Value.ref T.heap.size).category = 1 := rfl
  have hcellA : T1.heap[T.heap.size]? = some (freshCell cX kX) := by rw [← hT1]; exact State.heap_pushCell_size _ _
  have d3' : decode c.code (pc + 3) = .ok (.dup, 1) := by rw [hb]; exact d3
  have d4' : decode c.code (pc + 4) = .ok (.ldc is, 2) := by rw [hb]; exact d4
  have hstr' : vk_R RX10 is text sa s' := vk_R.warm hW0 hstr
  obtain ⟨U, hsteps, hrun, hend, hW, hsame, ce, hce, hcv, hcl0⟩ := nx_ctor X₁ hexec htr hown' hTw (fun w hw => hg' w (nx_TS w hw)) (vx_hat (fun w hw => hg' w (nx_P w hw)) nx_PD hD') (vx_hat (fun w hw => hg' w (nx_C w hw)) nx_CD hD') (fun w hw => hg' w (nx_Z w hw)) (vx_isRefq hU'.1) (vx_isRefq hN'.1) hfX hkX hcellA (by rw [hhp, hT]; exact Nat.le_refl _) (msg := .ref sa) rfl
    (g := { method := m, pc := pc + 6, locals := ls, stack := .ref sa :: .ref T.heap.size :: .ref T.heap.size :: rest, locked := none }) rfl hsize rfl rfl (rest := rest) rfl
    (by rw [hb]; exact d6) (by rw [hb]; exact d9) hout hRframes (by simp only [List.map_cons, List.sum_cons, hcat]; omega) hlocks
  obtain ⟨f1, f2⟩ := vx_frame hsame
  rw [hhp] at f1 f2
  have hWs : s.WarmedH U.vm := State.WarmedH.trans hW0 hW
  have hcl : s.vm.findClass nxE = some ce.cls := by rw [hvm] at hcl0; exact hcl0
  have hall : s.sameButNew ({ U with vm := s.vm } : State) locs mc ms := by
    subst hA
    obtain ⟨e1, e2⟩ := hsame
    rw [State.setFrames_setFrames] at e1
    have h2 : (T.setVm s.vm).sameButNew ({ U with vm := s.vm } : State) [] (0 + 1) (0 + 6) := ⟨e1, e2⟩
    have h3 := X.same.trans h2
    rw [List.append_nil] at h3
    exact h3.mono hc hs
  refine ⟨U, ?_, .threw T.heap.size, hrun, hend, Or.inr ⟨T.heap.size, rfl, nxE, ce, locs, hx U hWs.alike f1 (fun q hq => f2 q hq (fun z hz => nomatch hz)), hce, hcv, hcl, hWs, hall, hf⟩⟩
  refine st1 _ ?_
  show Steps p.tables e below (T1.setTop { method := m, pc := pc + 3, locals := ls, stack := .ref T.heap.size :: rest, locked := none }) _
  jvm_step X₁.here [X₁.here.top, hexec, d3', Value.category]
  exact X₁.ldcString hexec (own := RX10) (text := text) (index := is) (a := sa) hown' hstr'.1 hstr'.2
    (g := { method := m, pc := pc + 4, locals := ls, stack := .ref T.heap.size :: .ref T.heap.size :: rest, locked := none }) rfl d4' _ hsteps
end Throw
end NSEE
