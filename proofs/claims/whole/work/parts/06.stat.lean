/-! ===== rows for what the statics hold ===== -/
section StatRows
variable {p : Program} {l : Launch} {e : Env} {R : Room} {s : State} {m : MethodId} {args : Array Value} {below : List Frame} {meth : Method} {c : Code} {H : Heap} {locs : List Loc} {Q : State → Prop} {g : gT} {A : Nat → Prop} {cc : ByteArray} {nL : Nat} {pc index : Nat} {ls : Array Slot} {rest : List Value} {own host C n d ref : String}
theorem vin_lt {i : Int32} {k : Nat} (h : vp_in i k) : i.toNatClampNeg < k := Nat.not_le.mp fun q => h (Or.inr q)
theorem S_big (X : CX g A p s m args c cc nL own) (hS : va_S A s.heap H locs) : va_S (gB g) s.heap H locs := ⟨hS.1, fun q h1 h2 => hS.2.1 q h1 (fun z => h2 (X.2.2.2.2.2.1 q z)), fun l hl => X.2.2.2.2.2.1 _ (hS.2.2 l hl)⟩
theorem sfX (X : CX g A p s m args c cc nL own) : SF g s s.heap := X.2.2.2.2.2.2.2.2
/-- getstatic -/
theorem sgO {v : Value} (X : CX g A p s m args c cc nL own) (hS : va_S A s.heap H locs) (hZ : va_Z C n d v (gB g) s s.heap) (hl : Cond.fieldLink own index C n d ∈ gw) (hd : decode cc pc = .ok (.getstatic index, 3)) (kk : W p l e R s m args below meth c H locs 0 0 Q (F0 m (pc + 3) ls (v :: rest))) : W p l e R s m args below meth c H locs 0 0 Q (F0 m pc ls rest) :=
  va_gets X.1 X.2.1 hZ (S_big X hS) X.2.2.2.1 (X.2.2.2.2.1 _ hl) (fun _ h => h) hd kk
theorem sgN {v : Value} (X : CX g A p s m args c cc nL own) (hS : va_S A s.heap H locs) (hZ : va_Z C n d v (gB g) s s.heap) (hl : Cond.fieldLinkNest own index C n d host ∈ nestW) (hd : decode cc pc = .ok (.getstatic index, 3)) (kk : W p l e R s m args below meth c H locs 0 0 Q (F0 m (pc + 3) ls (v :: rest))) : W p l e R s m args below meth c H locs 0 0 Q (F0 m pc ls rest) :=
  va_getsN X.1 X.2.1 hZ (S_big X hS) X.2.2.2.1 (nest_use rfl (X.2.2.2.2.2.2.2.1 _ hl)) (fun _ h => h) hd kk
/-- aaload, iaload, baload, arraylength of a static row -/
theorem stq {t N : Nat} {f : Nat → Value} {i : Int32} (X : CX g A p s m args c cc nL own) (hS : va_S A s.heap H locs) (hT : va_T (.object C) t N f (gB g) s s.heap) (hin : vp_in i N) (hd : decode cc pc = .ok (.aaload, 1)) (kk : W p l e R s m args below meth c H locs 0 0 Q (F0 m (pc + 1) ls (f i.toNatClampNeg :: rest))) : W p l e R s m args below meth c H locs 0 0 Q (F0 m pc ls (.int i :: .ref t :: rest)) :=
  vb_tq X.1 X.2.1 hT (S_big X hS) hin rfl hd kk
theorem sti {t N : Nat} {f : Nat → Value} {i : Int32} (X : CX g A p s m args c cc nL own) (hS : va_S A s.heap H locs) (hT : va_T .int t N f (gB g) s s.heap) (hin : vp_in i N) (hd : decode cc pc = .ok (.iaload, 1)) (kk : W p l e R s m args below meth c H locs 0 0 Q (F0 m (pc + 1) ls (f i.toNatClampNeg :: rest))) : W p l e R s m args below meth c H locs 0 0 Q (F0 m pc ls (.int i :: .ref t :: rest)) :=
  va_ti X.1 X.2.1 hT (S_big X hS) hin rfl hd kk
theorem stb {t N : Nat} {f : Nat → Value} {i : Int32} (X : CX g A p s m args c cc nL own) (hS : va_S A s.heap H locs) (hT : va_T .byte t N f (gB g) s s.heap) (hin : vp_in i N) (hd : decode cc pc = .ok (.baload, 1)) (kk : W p l e R s m args below meth c H locs 0 0 Q (F0 m (pc + 1) ls (f i.toNatClampNeg :: rest))) : W p l e R s m args below meth c H locs 0 0 Q (F0 m pc ls (.int i :: .ref t :: rest)) :=
  va_tb X.1 X.2.1 hT (S_big X hS) hin rfl hd kk
theorem stl {t N : Nat} {f : Nat → Value} {ty : FieldType} {v : Int32} (X : CX g A p s m args c cc nL own) (hS : va_S A s.heap H locs) (hT : va_T ty t N f (gB g) s s.heap) (hv : Int32.ofNat N = v) (hd : decode cc pc = .ok (.arraylength, 1)) (kk : W p l e R s m args below meth c H locs 0 0 Q (F0 m (pc + 1) ls (.int v :: rest))) : W p l e R s m args below meth c H locs 0 0 Q (F0 m pc ls (.ref t :: rest)) :=
  va_tlen X.1 X.2.1 hT (S_big X hS) hv hd kk
/-- a field of a constant object -/
theorem ofO {q : Nat} {v : Value} (X : CX g A p s m args c cc nL own) (hS : va_S A s.heap H locs) (hE : va_OF C n d v q (gB g) s s.heap) (hl : Cond.fieldLink own index C n d ∈ gw) (hd : decode cc pc = .ok (.getfield index, 3)) (kk : W p l e R s m args below meth c H locs 0 0 Q (F0 m (pc + 3) ls (v :: rest))) : W p l e R s m args below meth c H locs 0 0 Q (F0 m pc ls (.ref q :: rest)) :=
  vk_getf X.1 X.2.1 hE (S_big X hS) X.2.2.2.1 (X.2.2.2.2.1 _ hl) (fun _ h => h) hd kk
theorem ofN {q : Nat} {v : Value} (X : CX g A p s m args c cc nL own) (hS : va_S A s.heap H locs) (hE : va_OF C n d v q (gB g) s s.heap) (hl : Cond.fieldLinkNest own index C n d host ∈ nestW) (hd : decode cc pc = .ok (.getfield index, 3)) (kk : W p l e R s m args below meth c H locs 0 0 Q (F0 m (pc + 3) ls (v :: rest))) : W p l e R s m args below meth c H locs 0 0 Q (F0 m pc ls (.ref q :: rest)) := by
  obtain ⟨cf, k, fi, f, cell, h1, h2, h3, h4, h5, h6⟩ := hE.kept (S_big X hS).2.1
  exact va_Wgetf X.1 X.2.1 X.2.2.2.1 (nest_use rfl (X.2.2.2.2.2.2.2.1 _ hl)) h1 h2 h3 h4 (v := v) h5 rfl rfl hd kk
theorem ldS {tx : String} {q : Nat} (X : CX g A p s m args c cc nL own) (hZ : vk_R own index tx q s) (hd : decode cc pc = .ok (.ldc index, 2)) (kk : W p l e R s m args below meth c H locs 0 0 Q (F0 m (pc + 2) ls (.ref q :: rest))) : W p l e R s m args below meth c H locs 0 0 Q (F0 m pc ls rest) :=
  va_ldcS X.1 X.2.1 X.2.2.2.1 hZ hd kk
theorem p9 {i : Nat} (h : i < 6) : 9 + i < 31 := by omega
end StatRows
theorem ord_back {p : Program} {l : Launch} {e : Env} {R : Room} {below : List Frame} {s : State} {sargs : Array Value} {q : Nat} {o : Int32} {H : Heap} (hx : p.tables.exec = Jvm.exec) (hg : ∀ w ∈ gw, w.before sargs s = true) (hF : va_OF "java/lang/Enum" "ordinal" "I" (.int o) q (fun _ => False) s H) (hfr : 1 ≤ R.frames) (hlo : 20 ≤ R.locals) :
    Back l R p e below s sargs yJx29ce0_ordinal_8abf5 3 8 (fun A a => a = #[.ref q] ∧ A.U.heap = H) (fun A _ v B => v = some (.int o) ∧ B.U.heap = A.U.heap ∧ B.locs = A.locs ∧ B.cells = A.cells ∧ B.slots = A.slots) := by
  intro m meth c A f ig mk a X hf hsize hdg hW hn hp
  obtain ⟨U, Ls, c0, s0⟩ := A
  dsimp only [Pt.U, Pt.locs, Pt.cells, Pt.slots] at X hn hp ⊢
  obtain ⟨rfl, hH⟩ := hp
  have hcode : (Cond.code yJx29ce0_ordinal_8abf5 cJx29ce0_ordinal_8abf5 1 (some .int)).before #[.ref q] U = true := word_at X.warmed (good_of_word rfl) (hg _ wd_3_3)
  obtain ⟨methO, cO, hmO, hcO, hbO, hlO, hrO, hkO, -, -⟩ := Cond.code_spec hn hcode
  obtain ⟨kY, hkY, hnY⟩ := className_of_methodNamed hn
  have hpl : U.plainMethod mk := State.plainMethod.of_name (fun k hk => by cases hkY.symm.trans hk; rw [hnY]; decide)
  have hAt : At U f.method c below := by rw [hf]; exact X.here
  have hU := hAt.enter #[.ref q] hmO hcO hpl
  have hroom := X.notFull (g := f) (vars := cO.maxLocals) hsize hfr (by rw [hlO]; omega)
  rw [doInvoke_enter (g := f) X.here.top [] hmO hcO hkO hroom]
  rw [hlO] at hU ⊢
  have hfr2 := frames_entered (s := U) (g := f) X.here.top (.java (entryFrame mk #[.ref q] 1))
  have hback := setFrames_entered (s := U) (g := f) X.here.top (.java (entryFrame mk #[.ref q] 1))
  have hcU : U.code? m = some c := X.here.code
  have h1 : U.vm.findClass yJx29ce0_ordinal_8abf5.cls = some mk.cls := findClass_of_methodNamed hn
  have hown : s.vm.findClass "java/lang/Enum" = some mk.cls := by rw [← X.warmed.alike.findClass]; exact h1
  obtain ⟨cf, k, i, fd, cell, q1, q2, q3, q4, q5, -⟩ := hF
  obtain ⟨ci', cfl, k', i', f', hi', hlinks, hright⟩ := Cond.fieldLink_spec hown (hg _ wd_7_225) e.platform X.magic
  cases q1.symm.trans hi'
  obtain ⟨hk, hfd⟩ := State.fieldFound?_spec q1
  generalize hU1 : (U.setTop f).pushFrame (.java (entryFrame mk #[.ref q] 1)) = U1 at hU hfr2 hback ⊢
  have hheap : U1.heap = H := by rw [← hU1]; exact hH
  have hvm : U1.vm = U.vm := by rw [← hU1]; rfl
  have hW1 : s.WarmedH U1.vm := by rw [hvm]; exact X.warmed
  obtain ⟨vm', hW', st⟩ := Steps.getfieldCold (tb := p.tables) (e := e) (below := below) (s₀ := s) (f := { method := mk, pc := 1, locals := #[.val (.ref q)], stack := [.ref q], locked := none }) (U := U1) hU hx (rest := []) (by rw [hbO]; exact dJx29ce0_ordinal_8abf5_1) hW1 hlinks hright hk hfd q2 rfl (by rw [hheap]; exact q3) q4 q5
  refine ⟨some (.int o), ⟨U.setVm vm', Ls, c0, s0⟩, X.noted hW', ⟨rfl, rfl, rfl, rfl, rfl⟩, ?_⟩
  have hU2 : At (U1.setVm vm') mk cO below := hU.setVm (hW1.alike.symm.trans hW'.alike)
  show Steps p.tables e below (U1.setTop { method := mk, pc := 0, locals := #[.val (.ref q)], stack := [], locked := none }) _
  jvm_step hU [hx, hbO, dJx29ce0_ordinal_8abf5_0]
  refine ⟨rfl, ?_⟩
  refine st _ ?_
  have hm2 : (U1.setVm vm').vm.method? mk = some methO := by
    show vm'.method? mk = some methO
    rw [hW'.alike.method?, ← X.warmed.alike.method?]
    exact hmO
  have hfr3 : (U1.setVm vm').frames = .java (entryFrame mk #[.ref q] 1) :: .java f :: U.frames.tail := hfr2
  have hcg : (U1.setVm vm').code? f.method = some c := by
    rw [hf, State.code?_eq]
    rw [State.code?_eq] at hcU
    show ((vm'.method? m).bind fun x => x.code) = some c
    rw [hW'.alike.method?, ← X.warmed.alike.method?]
    exact hcU
  have hback2 : (U1.setVm vm').setFrames (.java f :: U.frames.tail) = (U.setVm vm').setTop f := by
    have h9 : (U1.setVm vm').setFrames (.java f :: U.frames.tail) = (U1.setFrames (.java f :: U.frames.tail)).setVm vm' := rfl
    rw [h9, hback]
    rfl
  jvm_step hU2 [hU2.top, hx, hbO, dJx29ce0_ordinal_8abf5_4, (show vm'.method? mk = some methO from hm2), hrO, narrow]
  refine ⟨{ method := mk, pc := 4, locals := #[.val (.ref q)], stack := [.int o], locked := none }, State.topJava?_of_frames (State.frames_setTop' _ hU2.top), o, [], rfl, methO, hm2, .int, hrO, fun acts => ?_⟩
  rw [doReturn_leave (g := f) (meth := methO) (cg := c) (ig := ig) (len := 3) acts hfr3 hm2 hkO rfl rfl hcg hdg, hback2, State.setTop_setTop]
  exact Steps.refl _
section OrdRow
variable {p : Program} {l : Launch} {e : Env} {R : Room} {s : State} {m : MethodId} {args : Array Value} {below : List Frame} {meth : Method} {c : Code} {H : Heap} {locs : List Loc} {Q : State → Prop} {g : gT} {A : Nat → Prop} {cc : ByteArray} {nL : Nat} {pc index : Nat} {ls : Array Slot} {rest : List Value} {own : String}
/-- ordinal() of a constant (java/lang/Enum is not said to be initialised: the call is walked here, without a contract) -/
theorem ord_row {E : String} {q : Nat} {o : Int32} (X : CX g A p s m args c cc nL own) (hsz : ls.size = nL) (hS : va_S A s.heap H locs) (hO : va_O E q (gB g) s s.heap) (hF : va_OF "java/lang/Enum" "ordinal" "I" (.int o) q (gB g) s s.heap) (hl : Cond.methodLink own index ⟨E, "ordinal", "()I"⟩ ∈ gw) (hsm : Cond.sameMethod E "java/lang/Enum" "ordinal" "()I" ∈ gw) (hse : Cond.selects E ⟨E, "ordinal", "()I"⟩ yJx29ce0_ordinal_8abf5 ∈ gw) (hf : 1 ≤ R.frames) (hlo : 20 ≤ R.locals) (hd : decode cc pc = .ok (.invokevirtual index, 3)) (hro : (rest.map fun v => v.category).sum ≤ 8) (kk : W p l e R s m args below meth c H locs 0 0 Q (F0 m (pc + 3) ls (.int o :: rest))) : W p l e R s m args below meth c H locs 0 0 Q (F0 m pc ls (.ref q :: rest)) := by
  intro T hT Y
  have hF1 := hF.kept (S_big X hS).2.1
  have hF2 : va_OF "java/lang/Enum" "ordinal" "I" (.int o) q (fun _ => False) s H := hF1.narrow (fun _ z => z.elim)
  have hK := ord_back (l := l) (e := e) (R := R) (below := below) X.1 X.2.2.2.2.1 hF2 hf hlo
  have hdecl : va_Decl s ⟨"java/lang/Enum", "ordinal", "()I"⟩ := va_Decl.of (X.2.2.2.2.1 _ wd_3_2) (X.2.2.2.2.1 _ wd_3_3)
  obtain ⟨cell, h1, h2, h3, -⟩ := hO.kept (S_big X hS).2.1
  obtain ⟨v, vm₁, ⟨U', l2, c2, s2⟩, hW₁, X', ⟨e1, e2, e3, e4, e5⟩, st⟩ := va_callVU Y X.1 (C := E) (owner := "java/lang/Enum") (x := ⟨E, "ordinal", "()I"⟩) (y := yJx29ce0_ordinal_8abf5) X.2.2.2.1 (X.2.2.2.2.1 _ hl) (X.2.2.2.2.1 _ hsm) hdecl (by decide) (X.2.2.2.2.1 _ hse) (X.2.2.2.2.1 _ wd_3_2) (X.2.2.2.2.1 _ wd_3_3) hK (b := q) (by rw [hT]; exact h1) h2 h3 (g := F0 m pc ls (.ref q :: rest)) rfl (hsz.trans X.2.2.1.symm) (argsL := []) (rest := rest)
    (fun sig h => by
      have h9 : parseMethodDescriptor "()I" = some sig := h
      rw [show parseMethodDescriptor "()I" = some ⟨[], some .int⟩ from by decide] at h9
      rw [← Option.some.inj h9]; rfl) rfl (lv_room hro) (by rw [X.2.1]; exact hd) (fun vm₁ hW₁ => ⟨rfl, hT⟩)
  dsimp only [Pt.U, Pt.locs, Pt.cells, Pt.slots] at X' e1 e2 e3 e4 e5 st
  subst e1; subst e3; subst e4; subst e5
  obtain ⟨t, a1, b1⟩ := kk U' (by rw [e2]; exact hT) X'
  exact ⟨t, st t a1, b1⟩
end OrdRow
section StrRows
variable {p : Program} {l : Launch} {e : Env} {R : Room} {s : State} {m : MethodId} {args : Array Value} {below : List Frame} {meth : Method} {c : Code} {H : Heap} {locs : List Loc} {Q : State → Prop} {g : gT} {A : Nat → Prop} {cc bytes : ByteArray} {nL maxL n : Nat} {pc index : Nat} {ls : Array Slot} {st rest As : List Value} {own C : String} {y : MethodName} {ret : Option FieldType} {rm : Room} {w w' : va_W} {b : Nat}
/-- an instance method on an object that isn't among the world's cells -/
theorem kVr {r : Option Value} (X : CX g A p s m args c cc nL own) (hd : decode cc pc = .ok (.invokevirtual index, 3)) (hl : Cond.methodLink own index y ∈ gw) (hM : MW y bytes maxL n ret) (hi : Cond.instanceMethod y ∈ gw) (hs : Cond.selects C y y ∈ gw) (hP : WP g A w H) (hrv : ∃ cellB : Cell, H[b]? = some cellB ∧ cellB.vm.isStatics = false ∧ s.vm.findClass C = some cellB.cls) (hS : va_S A s.heap H locs) (hC : Std g l y (.code y bytes maxL ret :: gw) rm A (.ref b :: As) w w' r) (hn : As.length = n) (hsz : ls.size = nL) (hst : st = As.reverse ++ .ref b :: rest) (hro : (rest.map fun v => v.category).sum ≤ 8) (hrc : rm.cells = 0) (hrs : rm.slots = 0) (hR : rm.frames + 1 ≤ R.frames ∧ 8 + (maxL + 11) + rm.locals ≤ R.locals)
    (kk : ∀ (H1 : Heap) (locs1 : List Loc), WP g A w' H1 → va_S A s.heap H1 locs1 → W p l e R s m args below meth c H1 locs1 0 0 Q (F0 m (pc + 3) ls (r.toList ++ rest))) : W p l e R s m args below meth c H locs 0 0 Q (F0 m pc ls st) :=
  call_go (va_runV (fix_g X) hC ⟨callB_g X hM (X.2.2.2.2.1 _ hl) hrc hrs hR, X.2.2.2.2.1 _ hi, X.2.2.2.2.1 _ hs⟩ ⟨Pst.blind, hrv, (pre_g X hS hP (fun _ z => z)).2⟩ rfl hn hsz hst (lv_room hro) hd ⟨Nat.zero_le _, Nat.zero_le _⟩) hS (fun _ z => z) (fun H1 locs1 h1 _ _ h2 => kk H1 locs1 h1 h2)
theorem O_recv {E : String} {q : Nat} (X : CX g A p s m args c cc nL own) (hS : va_S A s.heap H locs) (hO : va_O E q (gB g) s s.heap) : ∃ cellB : Cell, H[q]? = some cellB ∧ cellB.vm.isStatics = false ∧ s.vm.findClass E = some cellB.cls := by
  obtain ⟨cell, h1, h2, h3, -⟩ := hO.kept (S_big X hS).2.1
  exact ⟨cell, h1, h2, h3⟩
/-- a method that returns a small number -/
theorem std_n {v : Int32} {ty : FieldType} (hnn : narrow ty (.int v) = .int v) {av : List Value} (hy : plainFor y = true) (ho : y.cls = own) (hlen : (lg_sl av).length ≤ maxL)
    (body : ∀ p e s m args below meth c Q, CX g A p s m args c cc maxL own → (∀ {H : Heap} {locs : List Loc} {pc : Nat} {ls : Array Slot}, WP g A w' H → va_S A s.heap H locs → decode cc pc = .ok (.ireturn, 1) → W p l e rm s m args below meth c H locs 0 0 Q (F0 m pc ls [.int v])) → ∀ (H : Heap) (locs : List Loc), WP g A w H → va_S A s.heap H locs → ∀ ls : Array Slot, lv_has ls maxL (lv_args 0 av) →
      W p l e rm s m args below meth c H locs 0 0 Q (F0 m 0 ls [])) : Std g l y (.code y cc maxL (some ty) :: gw) rm A av w w' (some (.int v)) :=
  std_of hy ho hlen (fun p e s m args below meth c X hr hlk hP hS ls hl => body p e s m args below meth c _ X (fun hP hS hd => W.zret X.1 X.2.1 hr hnn (fun t ht hW => ⟨rfl, by rw [ht]; exact hP, hS.F ht⟩) hS.2.2 hd hlk) _ _ hP hS ls hl)
/-- a method that returns a constant -/
theorem std_a {v : Nat} {nm : String} {av : List Value} (hy : plainFor y = true) (ho : y.cls = own) (hlen : (lg_sl av).length ≤ maxL)
    (body : ∀ p e s m args below meth c Q, CX g A p s m args c cc maxL own → (∀ {H : Heap} {locs : List Loc} {pc : Nat} {ls : Array Slot}, WP g A w' H → va_S A s.heap H locs → decode cc pc = .ok (.areturn, 1) → W p l e rm s m args below meth c H locs 0 0 Q (F0 m pc ls [.ref v])) → ∀ (H : Heap) (locs : List Loc), WP g A w H → va_S A s.heap H locs → ∀ ls : Array Slot, lv_has ls maxL (lv_args 0 av) →
      W p l e rm s m args below meth c H locs 0 0 Q (F0 m 0 ls [])) : Std g l y (.code y cc maxL (some (.object nm)) :: gw) rm A av w w' (some (.ref v)) :=
  std_of hy ho hlen (fun p e s m args below meth c X hr hlk hP hS ls hl => body p e s m args below meth c _ X (fun hP hS hd => W.aret X.1 X.2.1 hr (Or.inl ⟨_, rfl⟩) (Or.inr ⟨_, rfl⟩) (fun t ht hW => ⟨rfl, by rw [ht]; exact hP, hS.F ht⟩) hS.2.2 hd hlk) _ _ hP hS ls hl)
abbrev rmS (f k : Nat) : Room := { frames := f, cells := 0, slots := 0, locals := k }
theorem c_coder {si : Nat} (hsi : si < 31) : Std g l yJ0_coder_7d493 (.code yJ0_coder_7d493 cJ0_coder_7d493 1 (some .byte) :: gw) (rmS 0 0) A [.ref (g.2 (60 + si))] w w (some (.int 0)) := by
  refine std_n (own := RJ0) rfl (by decide +kernel) rfl (Nat.le_of_ble_eq_true rfl) ?_
  intro p e s m args below meth c Q X ret H locs hP hS ls hl
  have hx := X.1
  have hb := X.2.1
  have hl : lv_has ls 1 [(0, .ref (g.2 (60 + si)))] := hl
  refine sgO X hS (sfX X).2.2.2.2.2.1 wd_2_192 dJ0_coder_7d493_0 ?_
  refine lv_if_eq (tgt := 13) hx hb dJ0_coder_7d493_3 rfl (fun c1 => absurd c1 (by decide)) (fun c1 => ?_)
  refine lv_aload_n hx hb dJ0_coder_7d493_6 rfl (lv_at hl 0 rfl) ?_
  refine ofO X hS ((sfX X).2.2.2.2.2.2.2.2.2.2.2.2.2.2.1 _ hsi).2.1 wd_7_224 dJ0_coder_7d493_7 ?_
  refine lv_goto (tgt := 14) hx hb dJ0_coder_7d493_10 rfl ?_
  exact ret hP hS dJ0_coder_7d493_14
theorem c_latin {si : Nat} (hsi : si < 31) : Std g l yJ0_isLatin1_aae02 (.code yJ0_isLatin1_aae02 cJ0_isLatin1_aae02 1 (some .boolean) :: gw) (rmS 0 0) A [.ref (g.2 (60 + si))] w w (some (.int 1)) := by
  refine std_n (own := RJ0) rfl (by decide +kernel) rfl (Nat.le_of_ble_eq_true rfl) ?_
  intro p e s m args below meth c Q X ret H locs hP hS ls hl
  have hx := X.1
  have hb := X.2.1
  have hl : lv_has ls 1 [(0, .ref (g.2 (60 + si)))] := hl
  refine sgO X hS (sfX X).2.2.2.2.2.1 wd_2_192 dJ0_isLatin1_aae02_0 ?_
  refine lv_if_eq (tgt := 17) hx hb dJ0_isLatin1_aae02_3 rfl (fun c1 => absurd c1 (by decide)) (fun c1 => ?_)
  refine lv_aload_n hx hb dJ0_isLatin1_aae02_6 rfl (lv_at hl 0 rfl) ?_
  refine ofO X hS ((sfX X).2.2.2.2.2.2.2.2.2.2.2.2.2.2.1 _ hsi).2.1 wd_7_224 dJ0_isLatin1_aae02_7 ?_
  refine lv_if_ne (tgt := 17) hx hb dJ0_isLatin1_aae02_10 rfl (fun c1 => absurd rfl c1) (fun c1 => ?_)
  refine lv_iconst (v := 1) hx hb dJ0_isLatin1_aae02_13 rfl ?_
  refine lv_goto (tgt := 18) hx hb dJ0_isLatin1_aae02_14 rfl ?_
  exact ret hP hS dJ0_isLatin1_aae02_18
theorem c_len {si : Nat} (hsi : si < 31) : Std g l yJ0_length_8abf5 (.code yJ0_length_8abf5 cJ0_length_8abf5 1 (some .int) :: gw) (rmS 1 20) A [.ref (g.2 (60 + si))] w w (some (.int (Int32.ofNat (sL si)))) := by
  refine std_i (own := RJ0) (by decide +kernel) rfl (Nat.le_of_ble_eq_true rfl) ?_
  intro p e s m args below meth c Q X ret H locs hP hS ls hl
  have hx := X.1
  have hb := X.2.1
  have hl : lv_has ls 1 [(0, .ref (g.2 (60 + si)))] := hl
  refine lv_aload_n hx hb dJ0_length_8abf5_0 rfl (lv_at hl 0 rfl) ?_
  refine ofO X hS ((sfX X).2.2.2.2.2.2.2.2.2.2.2.2.2.2.1 _ hsi).2.2.1 wd_7_223 dJ0_length_8abf5_1 ?_
  refine stl X hS ((sfX X).2.2.2.2.2.2.2.2.2.2.2.2.2.2.1 _ hsi).2.2.2 rfl dJ0_length_8abf5_4 ?_
  refine lv_aload_n hx hb dJ0_length_8abf5_5 rfl (lv_at hl 0 rfl) ?_
  refine kVr (rest := [.int (Int32.ofNat (sL si))]) X dJ0_length_8abf5_6 wd_2_188 mw_J0_coder_7d493 wd_2_189 wd_2_190 hP (O_recv X hS ((sfX X).2.2.2.2.2.2.2.2.2.2.2.2.2.2.1 _ hsi).1) hS (c_coder hsi) rfl hl.1 rfl (Nat.le_of_ble_eq_true rfl) rfl rfl ⟨Nat.le_of_ble_eq_true rfl, Nat.le_of_ble_eq_true rfl⟩ (fun H locs hP hS => ?_)
  refine W.eq (g2 := F0 m 9 ls [.int 0, .int (Int32.ofNat (sL si))]) rfl ?_
  refine lv_ishr hx hb dJ0_length_8abf5_9 ?_
  rw [sb_shr0]
  exact ret hP hS dJ0_length_8abf5_10
theorem c_pre {i k : Int32} {v : Value} (hv : v = .null ∨ ∃ t, v = .ref t) (h1 : ¬ i < 0) (h2 : i < k) : Std g l yJ3_checkIndex_8e157 (.code yJ3_checkIndex_8e157 cJ3_checkIndex_8e157 3 (some .int) :: gw) (rmS 0 0) A [.int i, .int k, v] w w (some (.int i)) := by
  rcases hv with rfl | ⟨t, rfl⟩
  · refine std_i (own := RJ3) (by decide +kernel) rfl (Nat.le_of_ble_eq_true rfl) ?_
    intro p e s m args below meth c Q X ret H locs hP hS ls hl
    have hx := X.1
    have hb := X.2.1
    have hl : lv_has ls 3 [(0, .int i), (1, .int k), (2, .null)] := hl
    refine lv_iload_n hx hb dJ3_checkIndex_8e157_0 rfl (lv_at hl 0 rfl) ?_
    refine lv_if_lt (tgt := 9) hx hb dJ3_checkIndex_8e157_1 rfl (fun c1 => absurd c1 h1) (fun c1 => ?_)
    refine lv_iload_n hx hb dJ3_checkIndex_8e157_4 rfl (lv_at hl 0 rfl) ?_
    refine lv_iload_n hx hb dJ3_checkIndex_8e157_5 rfl (lv_at hl 1 rfl) ?_
    refine lv_icmp_lt (tgt := 16) hx hb dJ3_checkIndex_8e157_6 rfl (fun c2 => ?_) (fun c2 => absurd h2 c2)
    refine lv_iload_n hx hb dJ3_checkIndex_8e157_16 rfl (lv_at hl 0 rfl) ?_
    exact ret hP hS dJ3_checkIndex_8e157_17
  · refine std_i (own := RJ3) (by decide +kernel) rfl (Nat.le_of_ble_eq_true rfl) ?_
    intro p e s m args below meth c Q X ret H locs hP hS ls hl
    have hx := X.1
    have hb := X.2.1
    have hl : lv_has ls 3 [(0, .int i), (1, .int k), (2, .ref t)] := hl
    refine lv_iload_n hx hb dJ3_checkIndex_8e157_0 rfl (lv_at hl 0 rfl) ?_
    refine lv_if_lt (tgt := 9) hx hb dJ3_checkIndex_8e157_1 rfl (fun c1 => absurd c1 h1) (fun c1 => ?_)
    refine lv_iload_n hx hb dJ3_checkIndex_8e157_4 rfl (lv_at hl 0 rfl) ?_
    refine lv_iload_n hx hb dJ3_checkIndex_8e157_5 rfl (lv_at hl 1 rfl) ?_
    refine lv_icmp_lt (tgt := 16) hx hb dJ3_checkIndex_8e157_6 rfl (fun c2 => ?_) (fun c2 => absurd h2 c2)
    refine lv_iload_n hx hb dJ3_checkIndex_8e157_16 rfl (lv_at hl 0 rfl) ?_
    exact ret hP hS dJ3_checkIndex_8e157_17
theorem sgQ (X : CX g A p s m args c cc nL own) (hS : va_S A s.heap H locs) (hl : Cond.fieldLink own index "jdk/internal/util/Preconditions" "SIOOBE_FORMATTER" "Ljava/util/function/BiFunction;" ∈ gw) (hd : decode cc pc = .ok (.getstatic index, 3)) (kk : ∀ v : Value, (v = .null ∨ ∃ t, v = .ref t) → W p l e R s m args below meth c H locs 0 0 Q (F0 m (pc + 3) ls (v :: rest))) : W p l e R s m args below meth c H locs 0 0 Q (F0 m pc ls rest) := by
  rcases (sfX X).2.2.2.2.2.2.1 with h | ⟨t, h⟩
  · exact sgO X hS h hl hd (kk _ (Or.inl rfl))
  · exact sgO X hS h hl hd (kk _ (Or.inr ⟨t, rfl⟩))
theorem c_check {i k : Int32} (h1 : ¬ i < 0) (h2 : i < k) : Std g l yJ0_checkIndex_df160 (.code yJ0_checkIndex_df160 cJ0_checkIndex_df160 2 none :: gw) (rmS 1 22) A [.int i, .int k] w w none := by
  refine std_v (own := RJ0) (by decide +kernel) rfl (Nat.le_of_ble_eq_true rfl) ?_
  intro p e s m args below meth c Q X ret H locs hP hS ls hl
  have hx := X.1
  have hb := X.2.1
  have hl : lv_has ls 2 [(0, .int i), (1, .int k)] := hl
  refine lv_iload_n hx hb dJ0_checkIndex_df160_0 rfl (lv_at hl 0 rfl) ?_
  refine lv_iload_n hx hb dJ0_checkIndex_df160_1 rfl (lv_at hl 1 rfl) ?_
  refine sgQ X hS wd_2_208 dJ0_checkIndex_df160_2 (fun v hv => ?_)
  refine kS (rest := []) X dJ0_checkIndex_df160_5 wd_2_210 mw_J3_checkIndex_8e157 wd_2_211 hP hS (fun _ z => z) (c_pre hv h1 h2) rfl hl.1 rfl (Nat.le_of_ble_eq_true rfl) rfl rfl ⟨Nat.le_of_ble_eq_true rfl, Nat.le_of_ble_eq_true rfl⟩ (fun H locs hP _ _ hS => ?_)
  refine W.eq (g2 := F0 m 8 ls [.int i]) rfl ?_
  refine lv_pop hx hb dJ0_checkIndex_df160_8 rfl ?_
  exact ret hP hS dJ0_checkIndex_df160_9
theorem sCh_ok : ∀ si, si < 31 → ∀ j, j < sL si → ((sCh si j &&& 255).toUInt32 % 65536).toInt32 = sCh si j ∧ narrow .char (.int (sCh si j)) = .int (sCh si j) ∧ sL si < 2 ^ 31 := by decide +kernel
theorem c_l1 {si : Nat} {i : Int32} (hsi : si < 31) (hin : vp_in i (sL si)) : Std g l yJ1_charAt_3b067 (.code yJ1_charAt_3b067 cJ1_charAt_3b067 2 (some .char) :: gw) (rmS 2 43) A [.ref (g.2 (100 + si)), .int i] w w (some (.int (sCh si i.toNatClampNeg))) := by
  have hok := sCh_ok si hsi _ (vin_lt hin)
  have h1 : ¬ i < 0 := fun z => hin (Or.inl z)
  have h2 : i < Int32.ofNat (sL si) := by
    obtain ⟨j, hj, rfl⟩ := vp_in_of hin hok.2.2
    exact nI_lt hj hok.2.2
  refine std_n (own := RJ1) hok.2.1 (by decide +kernel) rfl (Nat.le_of_ble_eq_true rfl) ?_
  intro p e s m args below meth c Q X ret H locs hP hS ls hl
  have hx := X.1
  have hb := X.2.1
  have hl : lv_has ls 2 [(0, .ref (g.2 (100 + si))), (1, .int i)] := hl
  refine lv_iload_n hx hb dJ1_charAt_3b067_0 rfl (lv_at hl 1 rfl) ?_
  refine lv_aload_n hx hb dJ1_charAt_3b067_1 rfl (lv_at hl 0 rfl) ?_
  refine stl X hS ((sfX X).2.2.2.2.2.2.2.2.2.2.2.2.2.2.1 _ hsi).2.2.2 rfl dJ1_charAt_3b067_2 ?_
  refine kS (rest := []) X dJ1_charAt_3b067_3 wd_2_205 mw_J0_checkIndex_df160 wd_2_206 hP hS (fun _ z => z) (c_check h1 h2) rfl hl.1 rfl (Nat.le_of_ble_eq_true rfl) rfl rfl ⟨Nat.le_of_ble_eq_true rfl, Nat.le_of_ble_eq_true rfl⟩ (fun H locs hP _ _ hS => ?_)
  refine W.eq (g2 := F0 m 6 ls []) rfl ?_
  refine lv_aload_n hx hb dJ1_charAt_3b067_6 rfl (lv_at hl 0 rfl) ?_
  refine lv_iload_n hx hb dJ1_charAt_3b067_7 rfl (lv_at hl 1 rfl) ?_
  refine stb X hS ((sfX X).2.2.2.2.2.2.2.2.2.2.2.2.2.2.1 _ hsi).2.2.2 hin dJ1_charAt_3b067_8 ?_
  refine lv_sipush (v := 255) hx hb dJ1_charAt_3b067_9 rfl ?_
  refine lv_iand hx hb dJ1_charAt_3b067_12 ?_
  refine lv_i2c hx hb dJ1_charAt_3b067_13 hok.1 ?_
  exact ret hP hS dJ1_charAt_3b067_14
theorem c_chr {si : Nat} {i : Int32} (hsi : si < 31) (hin : vp_in i (sL si)) : Std g l yJ0_charAt_5068e (.code yJ0_charAt_5068e cJ0_charAt_5068e 2 (some .char) :: gw) (rmS 3 64) A [.ref (g.2 (60 + si)), .int i] w w (some (.int (sCh si i.toNatClampNeg))) := by
  have hok := sCh_ok si hsi _ (vin_lt hin)
  refine std_n (own := RJ0) hok.2.1 (by decide +kernel) rfl (Nat.le_of_ble_eq_true rfl) ?_
  intro p e s m args below meth c Q X ret H locs hP hS ls hl
  have hx := X.1
  have hb := X.2.1
  have hl : lv_has ls 2 [(0, .ref (g.2 (60 + si))), (1, .int i)] := hl
  refine lv_aload_n hx hb dJ0_charAt_5068e_0 rfl (lv_at hl 0 rfl) ?_
  refine kVr (rest := []) X dJ0_charAt_5068e_1 wd_2_198 mw_J0_isLatin1_aae02 wd_2_199 wd_2_200 hP (O_recv X hS ((sfX X).2.2.2.2.2.2.2.2.2.2.2.2.2.2.1 _ hsi).1) hS (c_latin hsi) rfl hl.1 rfl (Nat.le_of_ble_eq_true rfl) rfl rfl ⟨Nat.le_of_ble_eq_true rfl, Nat.le_of_ble_eq_true rfl⟩ (fun H locs hP hS => ?_)
  refine W.eq (g2 := F0 m 4 ls [.int 1]) rfl ?_
  refine lv_if_eq (tgt := 16) hx hb dJ0_charAt_5068e_4 rfl (fun c1 => absurd c1 (by decide)) (fun c1 => ?_)
  refine lv_aload_n hx hb dJ0_charAt_5068e_7 rfl (lv_at hl 0 rfl) ?_
  refine ofO X hS ((sfX X).2.2.2.2.2.2.2.2.2.2.2.2.2.2.1 _ hsi).2.2.1 wd_7_223 dJ0_charAt_5068e_8 ?_
  refine lv_iload_n hx hb dJ0_charAt_5068e_11 rfl (lv_at hl 1 rfl) ?_
  refine kS (rest := []) X dJ0_charAt_5068e_12 wd_2_202 mw_J1_charAt_3b067 wd_2_203 hP hS (fun _ z => z) (c_l1 hsi hin) rfl hl.1 rfl (Nat.le_of_ble_eq_true rfl) rfl rfl ⟨Nat.le_of_ble_eq_true rfl, Nat.le_of_ble_eq_true rfl⟩ (fun H locs hP _ _ hS => ?_)
  refine W.eq (g2 := F0 m 15 ls [.int (sCh si i.toNatClampNeg)]) rfl ?_
  exact ret hP hS dJ0_charAt_5068e_15
/-- length() of a text -/
theorem str_len {si : Nat} (X : CX g A p s m args c cc nL own) (hP : WP g A w H) (hsz : ls.size = nL) (hS : va_S A s.heap H locs) (hsi : si < 31) (hl : Cond.methodLink own index yJ0_length_8abf5 ∈ gw) (hro : (rest.map fun v => v.category).sum ≤ 8) (hf : 2 ≤ R.frames) (hlo : 40 ≤ R.locals) (hd : decode cc pc = .ok (.invokevirtual index, 3)) (kk : ∀ (H1 : Heap) (locs1 : List Loc), WP g A w H1 → va_S A s.heap H1 locs1 → W p l e R s m args below meth c H1 locs1 0 0 Q (F0 m (pc + 3) ls (.int (Int32.ofNat (sL si)) :: rest))) : W p l e R s m args below meth c H locs 0 0 Q (F0 m pc ls (.ref (g.2 (60 + si)) :: rest)) :=
  kVr (rest := rest) X hd hl mw_J0_length_8abf5 wd_2_185 wd_2_186 hP (O_recv X hS ((sfX X).2.2.2.2.2.2.2.2.2.2.2.2.2.2.1 _ hsi).1) hS (c_len hsi) rfl hsz rfl hro rfl rfl ⟨hf, hlo⟩ kk
/-- charAt(i) of a text -/
theorem str_chr {si : Nat} {i : Int32} (X : CX g A p s m args c cc nL own) (hP : WP g A w H) (hsz : ls.size = nL) (hS : va_S A s.heap H locs) (hsi : si < 31) (hin : vp_in i (sL si)) (hl : Cond.methodLink own index yJ0_charAt_5068e ∈ gw) (hro : (rest.map fun v => v.category).sum ≤ 8) (hf : 4 ≤ R.frames) (hlo : 90 ≤ R.locals) (hd : decode cc pc = .ok (.invokevirtual index, 3)) (kk : ∀ (H1 : Heap) (locs1 : List Loc), WP g A w H1 → va_S A s.heap H1 locs1 → W p l e R s m args below meth c H1 locs1 0 0 Q (F0 m (pc + 3) ls (.int (sCh si i.toNatClampNeg) :: rest))) : W p l e R s m args below meth c H locs 0 0 Q (F0 m pc ls (.int i :: .ref (g.2 (60 + si)) :: rest)) :=
  kVr (rest := rest) X hd hl mw_J0_charAt_5068e wd_2_195 wd_2_196 hP (O_recv X hS ((sfX X).2.2.2.2.2.2.2.2.2.2.2.2.2.2.1 _ hsi).1) hS (c_chr hsi hin) rfl hsz rfl hro rfl rfl ⟨hf, Nat.le_trans (by decide) hlo⟩ kk
end StrRows
