/-! ===== constructors: what they need ===== -/
section CtorBase
variable {p : Program} {l : Launch} {e : Env} {R : Room} {s : State} {m : MethodId} {args : Array Value} {below : List Frame} {meth : Method} {c : Code} {H H1 : Heap} {locs : List Loc} {Q : State → Prop} {g : gT} {A A1 B : Nat → Prop} {cc bytes : ByteArray} {nL maxL index n : Nat} {own host C : String} {y : MethodName} {rm : Room} {ws w w1 w' : va_W} {b h : Nat} {As st rest : List Value} {pc : Nat} {ls : Array Slot} {cells slots mc ms sz : Nat} {e0 : va_E}
theorem one_D {x : Nat × va_E} (h : A x.1) : va_D A [x] := by
  refine ⟨fun i j p q hi hj _ => ?_, fun k q hq => ?_⟩
  · cases i with
    | succ i => simp at hi
    | zero =>
      cases j with
      | succ j => simp at hj
      | zero => rfl
  · cases k with
    | succ k => simp at hq
    | zero => cases Option.some.inj hq; exact h
/-- a world's last cells give way to others -/
theorem jn (hP : WP g A (ws ++ w) H) (hB : ∀ q, B q → inA w q ∨ H.size ≤ q) (hF : ∀ q, B q → A q) (hk : ∀ q : Nat, q < H.size → ¬ B q → H1[q]? = H[q]?) (h1 : WP g B w1 H1) : WP g A (ws ++ w1) H1 := by
  have lft : ∀ (v : va_W) (k : Nat) (x : Nat × va_E), ws[k]? = some x → (ws ++ v)[k]? = some x := fun v k x hx => by
    rw [List.getElem?_append_left (List.getElem?_eq_some_iff.mp hx).1]; exact hx
  have off : ∀ (k : Nat) (x : Nat × va_E), ws[k]? = some x → x.1 < H.size ∧ ¬ B x.1 := fun k x hx => by
    have h2 := hP.1 k x (lft w k x hx)
    obtain ⟨cl, hc⟩ := at_lt h2
    have hlt : x.1 < H.size := (Array.getElem?_eq_some_iff.mp hc).1
    refine ⟨hlt, fun hb => ?_⟩
    rcases hB _ hb with ⟨j, e, hj⟩ | hge
    · have h3 : (ws ++ w)[ws.length + j]? = some (x.1, e) := by
        rw [List.getElem?_append_right (Nat.le_add_right _ _), Nat.add_sub_cancel_left]; exact hj
      have h4 := hP.2.1 k (ws.length + j) x (x.1, e) (lft w k x hx) h3 rfl
      have h5 := (List.getElem?_eq_some_iff.mp hx).1
      omega
    · omega
  have sp : ∀ (k : Nat) (x : Nat × va_E), (ws ++ w1)[k]? = some x → (ws[k]? = some x) ∨ (ws.length ≤ k ∧ w1[k - ws.length]? = some x) := fun k x hx => by
    by_cases hlt : k < ws.length
    · rw [List.getElem?_append_left hlt] at hx; exact Or.inl hx
    · rw [List.getElem?_append_right (Nat.not_lt.mp hlt)] at hx; exact Or.inr ⟨Nat.not_lt.mp hlt, hx⟩
  refine ⟨fun k x hx => ?_, fun i j p q hp hq he => ?_, fun k x hx => ?_⟩
  · rcases sp k x hx with h2 | ⟨-, h2⟩
    · exact (hP.1 k x (lft w k x h2)).kept (hk _ (off k x h2).1 (off k x h2).2)
    · exact h1.1 _ x h2
  · rcases sp i p hp with h2 | ⟨l2, h2⟩ <;> rcases sp j q hq with h3 | ⟨l3, h3⟩
    · exact hP.2.1 i j p q (lft w i p h2) (lft w j q h3) he
    · exact absurd (h1.2.2 _ q h3) (by rw [← he]; exact (off i p h2).2)
    · exact absurd (h1.2.2 _ p h2) (by rw [he]; exact (off j q h3).2)
    · have := h1.2.1 _ _ p q h2 h3 he
      omega
  · rcases sp k x hx with h2 | ⟨-, h2⟩
    · exact hP.2.2 k x (lft w k x h2)
    · exact hF _ (h1.2.2 _ x h2)
/-- a world's last cells alone -/
theorem suf (hP : WP g A (ws ++ w) H) : WP g (inA w) w H ∧ ∀ q, inA w q → A q := by
  have rgt : ∀ (k : Nat) (x : Nat × va_E), w[k]? = some x → (ws ++ w)[ws.length + k]? = some x := fun k x hx => by
    rw [List.getElem?_append_right (Nat.le_add_right _ _), Nat.add_sub_cancel_left]; exact hx
  refine ⟨⟨fun k x hx => hP.1 _ x (rgt k x hx), fun i j p q hp hq he => ?_, fun k x hx => ⟨k, x.2, hx⟩⟩, fun q ⟨k, e, hk⟩ => hP.2.2 _ _ (rgt k _ hk)⟩
  have := hP.2.1 _ _ p q (rgt i p hp) (rgt j q hq) he
  omega
theorem pre1 (hP : WP g A (ws ++ w) H) : WP g (inA ws) ws H ∧ (∀ q, inA ws q → A q) ∧ ∀ q, inA ws q → ¬ inA w q := by
  have lft : ∀ (k : Nat) (x : Nat × va_E), ws[k]? = some x → (ws ++ w)[k]? = some x := fun k x hx => by
    rw [List.getElem?_append_left (List.getElem?_eq_some_iff.mp hx).1]; exact hx
  refine ⟨⟨fun k x hx => hP.1 _ x (lft k x hx), fun i j p q hp hq he => hP.2.1 _ _ p q (lft i p hp) (lft j q hq) he, fun k x hx => ⟨k, x.2, hx⟩⟩, fun q ⟨k, e, hk⟩ => hP.2.2 _ _ (lft k _ hk), fun q ⟨k, e, hk⟩ ⟨j, e2, hj⟩ => ?_⟩
  have h3 : (ws ++ w)[ws.length + j]? = some (q, e2) := by
    rw [List.getElem?_append_right (Nat.le_add_right _ _), Nat.add_sub_cancel_left]; exact hj
  have h4 := hP.2.1 k (ws.length + j) _ _ (lft k _ hk) h3 rfl
  have h5 := (List.getElem?_eq_some_iff.mp hk).1
  omega
theorem awI : Cond.arrayClass .int ∈ gw := tg_1 (List.mem_of_getElem? (i := 48) rfl) rfl
theorem na_I {n : Int32} {N : Nat} (X : CX g A p s m args c cc nL own) (hA : ∀ q, s.heap.size ≤ q → A q) (hP : WP g A ws H) (hS : va_S A s.heap H locs) (hn : ¬ n < 0) (hN : n.toNatClampNeg = N) (hby : N * 8 ≤ 536870912) (hcells : cells + 1 ≤ R.cells) (hslots : slots + N ≤ R.slots) (hdg : decode cc pc = .ok (.newarray .int, 2))
    (kk : ∀ (q : Nat) (H1 : Heap), WP g A (ws ++ [(q, .inl (g.2 0, N, .inl (fun _ => 0)))]) H1 → va_S A s.heap H1 locs → W p l e R s m args below meth c H1 locs (cells + 1) (slots + N) Q (F0 m (pc + 2) ls (.ref q :: rest))) : W p l e R s m args below meth c H locs cells slots Q (F0 m pc ls (.int n :: rest)) := by
  refine va_newa (D := g.1) (cl := vwCl) (tys := gTys g) (atype := .int) (ty := .int) (N' := N) (a0 := (N, .inl (fun _ => 0))) X.1 X.2.1 (X.2.2.2.2.1 _ awI) rfl X.2.2.2.2.2.2.1 hP.1 hP.2 hS hA (fun _ => rfl) hn hN (Nat.le_trans (Nat.mul_le_mul_left _ (by decide)) hby) hcells hslots hdg (fun q cA H1 hK hP1 hD1 hS1 => ?_)
  have e1 := (hK.2 4 (cA, .int) rfl).2
  have e2 := (hK.2 0 (g.2 0, .int) rfl).2
  have e3 : cA = g.2 0 := Option.some.inj (Eq.trans (Eq.symm e1) e2)
  subst e3
  exact kk q H1 ⟨hP1, hD1⟩ hS1
theorem awL : Cond.arrayClass .long ∈ gw := tg_1 (List.mem_of_getElem? (i := 196) rfl) rfl
theorem na_L {n : Int32} {N : Nat} (X : CX g A p s m args c cc nL own) (hA : ∀ q, s.heap.size ≤ q → A q) (hP : WP g A ws H) (hS : va_S A s.heap H locs) (hn : ¬ n < 0) (hN : n.toNatClampNeg = N) (hby : N * 8 ≤ 536870912) (hcells : cells + 1 ≤ R.cells) (hslots : slots + N ≤ R.slots) (hdg : decode cc pc = .ok (.newarray .long, 2))
    (kk : ∀ (q : Nat) (H1 : Heap), WP g A (ws ++ [(q, .inl (g.2 1, N, .inr (.inl (fun _ => 0))))]) H1 → va_S A s.heap H1 locs → W p l e R s m args below meth c H1 locs (cells + 1) (slots + N) Q (F0 m (pc + 2) ls (.ref q :: rest))) : W p l e R s m args below meth c H locs cells slots Q (F0 m pc ls (.int n :: rest)) := by
  refine va_newa (D := g.1) (cl := vwCl) (tys := gTys g) (atype := .long) (ty := .long) (N' := N) (a0 := (N, .inr (.inl (fun _ => 0)))) X.1 X.2.1 (X.2.2.2.2.1 _ awL) rfl X.2.2.2.2.2.2.1 hP.1 hP.2 hS hA (fun _ => rfl) hn hN (Nat.le_trans (Nat.mul_le_mul_left _ (by decide)) hby) hcells hslots hdg (fun q cA H1 hK hP1 hD1 hS1 => ?_)
  have e1 := (hK.2 4 (cA, .long) rfl).2
  have e2 := (hK.2 1 (g.2 1, .long) rfl).2
  have e3 : cA = g.2 1 := Option.some.inj (Eq.trans (Eq.symm e1) e2)
  subst e3
  exact kk q H1 ⟨hP1, hD1⟩ hS1
theorem awY : Cond.arrayClass .byte ∈ gw := tg_5 (List.mem_of_getElem? (i := 77) rfl) rfl
theorem na_Y {n : Int32} {N : Nat} (X : CX g A p s m args c cc nL own) (hA : ∀ q, s.heap.size ≤ q → A q) (hP : WP g A ws H) (hS : va_S A s.heap H locs) (hn : ¬ n < 0) (hN : n.toNatClampNeg = N) (hby : N * 8 ≤ 536870912) (hcells : cells + 1 ≤ R.cells) (hslots : slots + N ≤ R.slots) (hdg : decode cc pc = .ok (.newarray .byte, 2))
    (kk : ∀ (q : Nat) (H1 : Heap), WP g A (ws ++ [(q, .inl (g.2 2, N, .inl (fun _ => 0)))]) H1 → va_S A s.heap H1 locs → W p l e R s m args below meth c H1 locs (cells + 1) (slots + N) Q (F0 m (pc + 2) ls (.ref q :: rest))) : W p l e R s m args below meth c H locs cells slots Q (F0 m pc ls (.int n :: rest)) := by
  refine va_newa (D := g.1) (cl := vwCl) (tys := gTys g) (atype := .byte) (ty := .byte) (N' := N) (a0 := (N, .inl (fun _ => 0))) X.1 X.2.1 (X.2.2.2.2.1 _ awY) rfl X.2.2.2.2.2.2.1 hP.1 hP.2 hS hA (fun _ => rfl) hn hN (Nat.le_trans (Nat.mul_le_mul_left _ (by decide)) hby) hcells hslots hdg (fun q cA H1 hK hP1 hD1 hS1 => ?_)
  have e1 := (hK.2 4 (cA, .byte) rfl).2
  have e2 := (hK.2 2 (g.2 2, .byte) rfl).2
  have e3 : cA = g.2 2 := Option.some.inj (Eq.trans (Eq.symm e1) e2)
  subst e3
  exact kk q H1 ⟨hP1, hD1⟩ hS1
theorem awB : Cond.arrayClass .boolean ∈ gw := tg_6 (List.mem_of_getElem? (i := 134) rfl) rfl
theorem na_B {n : Int32} {N : Nat} (X : CX g A p s m args c cc nL own) (hA : ∀ q, s.heap.size ≤ q → A q) (hP : WP g A ws H) (hS : va_S A s.heap H locs) (hn : ¬ n < 0) (hN : n.toNatClampNeg = N) (hby : N * 8 ≤ 536870912) (hcells : cells + 1 ≤ R.cells) (hslots : slots + N ≤ R.slots) (hdg : decode cc pc = .ok (.newarray .boolean, 2))
    (kk : ∀ (q : Nat) (H1 : Heap), WP g A (ws ++ [(q, .inl (g.2 3, N, .inl (fun _ => 0)))]) H1 → va_S A s.heap H1 locs → W p l e R s m args below meth c H1 locs (cells + 1) (slots + N) Q (F0 m (pc + 2) ls (.ref q :: rest))) : W p l e R s m args below meth c H locs cells slots Q (F0 m pc ls (.int n :: rest)) := by
  refine va_newa (D := g.1) (cl := vwCl) (tys := gTys g) (atype := .boolean) (ty := .boolean) (N' := N) (a0 := (N, .inl (fun _ => 0))) X.1 X.2.1 (X.2.2.2.2.1 _ awB) rfl X.2.2.2.2.2.2.1 hP.1 hP.2 hS hA (fun _ => rfl) hn hN (Nat.le_trans (Nat.mul_le_mul_left _ (by decide)) hby) hcells hslots hdg (fun q cA H1 hK hP1 hD1 hS1 => ?_)
  have e1 := (hK.2 4 (cA, .boolean) rfl).2
  have e2 := (hK.2 3 (g.2 3, .boolean) rfl).2
  have e3 : cA = g.2 3 := Option.some.inj (Eq.trans (Eq.symm e1) e2)
  subst e3
  exact kk q H1 ⟨hP1, hD1⟩ hS1
/-- an object made -/
theorem newC {T : u_T} {N ci : Nat} {ty : Nat → FieldType} {fs : List Value} (X : CX g A p s m args c cc nL own) (hA : ∀ q, s.heap.size ≤ q → A q) (hP : WP g A ws H) (hS : va_S A s.heap H locs) (lay : ∀ w ∈ u_ws C T N, w ∈ gw) (hty : ∀ k, k < N → parseFieldDescriptor (T k).2.2.1 = some (ty k)) (hcl : Cond.classLink own index C ∈ gw) (hinst : Cond.instantiable C N ∈ gw) (hini : Cond.initialized C ∈ gw) (hc : vwCl[ci]? = some (C, T, N)) (hfs : ∀ j, j < N → defaultValue (ty j) = vp_V fs j) (hcells : cells + 1 ≤ R.cells) (hslots : slots + N ≤ R.slots) (hdg : decode cc pc = .ok (.new index, 3))
    (kk : ∀ (q : Nat) (H1 : Heap), WP g A (ws ++ [(q, .inr (ci, fs))]) H1 → va_S A s.heap H1 locs → W p l e R s m args below meth c H1 locs (cells + 1) (slots + N) Q (F0 m (pc + 3) ls (.ref q :: rest))) : W p l e R s m args below meth c H locs cells slots Q (F0 m pc ls rest) :=
  va_new (D := g.1) (cl := vwCl) (tys := gTys g) X.1 X.2.1 X.2.2.2.2.1 lay ty hty X.2.2.2.1 (X.2.2.2.2.1 _ hcl) (X.2.2.2.2.1 _ hinst) (X.2.2.2.2.1 _ hini) X.2.2.2.2.2.2.1 hP.1 hP.2 hS hA hc hfs hcells hslots hdg (fun q H1 h1 h2 h3 => kk q H1 ⟨h1, h2⟩ h3)
/-- a constructor's contract: of the object at h, at a heap of sz cells -/
def PC (g : gT) (h sz : Nat) (e0 : va_E) (As : List Value) : Array Value → State → Prop := va_Pc (.ref h :: As) (fun U => U.heap.size = sz ∧ WP g (va_A [(h, e0)] sz) [(h, e0)] U.heap ∧ GG g (va_A [(h, e0)] sz) U U.heap)
def QC (g : gT) (h sz : Nat) (e0 : va_E) (Wd : (Nat → Nat) → va_W) : Array Value → State → Outcome → State → Prop := fun _ st oc t => oc = .returned none ∧ ∃ q : Nat → Nat, WP g (va_A [(h, e0)] sz) (Wd q) t.heap ∧ va_F (va_A [(h, e0)] sz) st t
theorem PC.blind : FrameBlind (PC g h sz e0 As) := fun _ _ f mk h => ⟨h.1, h.2.1, h.2.2.1, h.2.2.2.blind f mk _⟩
abbrev CM (g : gT) (l : Launch) (y : MethodName) (bytes : ByteArray) (maxL : Nat) (rm : Room) (h : Nat) (e0 : va_E) (As : List Value) (Wd : (Nat → Nat) → va_W) (mc ms : Nat) : Prop := ∀ sz : Nat, Met l y (.code y bytes maxL none :: gw) rm (PC g h sz e0 As) (QC g h sz e0 Wd) mc ms (va_A [(h, e0)] sz)
theorem std_c {Wd : (Nat → Nat) → va_W} (hy : plainFor y = true) (ho : y.cls = own) (hnm : y.name = "<init>") (hlen : (lg_sl (.ref h :: As)).length ≤ maxL)
    (body : ∀ p e s m args below meth c Q A, CX g A p s m args c cc maxL own → meth.name = "<init>" → (∀ q, s.heap.size ≤ q → A q) → (∀ {H : Heap} {locs : List Loc} {pc : Nat} {ls : Array Slot} (q : Nat → Nat), WP g A (Wd q) H → va_S A s.heap H locs → decode cc pc = .ok (.return_, 1) → W p l e rm s m args below meth c H locs mc ms Q (F0 m pc ls [])) → ∀ (H : Heap) (locs : List Loc), WP g A [(h, e0)] H → va_S A s.heap H locs → ∀ ls : Array Slot, lv_has ls maxL (lv_args 0 (.ref h :: As)) →
      W p l e rm s m args below meth c H locs 0 0 Q (F0 m 0 ls [])) : CM g l y cc maxL rm h e0 As Wd mc ms := by
  intro sz
  refine metF (cc := cc) (maxL := maxL) (ret := none) hy rfl ?_
  intro p e s m args below meth c s₁ B hml hv
  obtain ⟨rfl, rfl, hP, hG⟩ := hv
  have hts := atoms_spec (ws := .code y cc maxL none :: gw) B.pre
  have hown : s.vm.findClass y.cls = some m.cls := findClass_of_methodNamed B.named
  have hin : meth.name = "<init>" := ((name_of_methodNamed B.named B.method).1).trans hnm
  rw [lg_entry_eq]
  have hlk : meth.locks = false := B.notSynchronized
  have X : CX g (va_A [(h, e0)] s.heap.size) p s m ((.ref h :: As : List Value)).toArray c cc maxL own := ⟨B.exec, B.bytes, hml, ho ▸ hown, fun w h => hts w (List.mem_cons_of_mem _ h), hG⟩
  exact body p e s m _ below meth c _ _ X hin (fun q hq => Or.inr hq) (fun q hP hS hd => W.vret X.1 X.2.1 B.returns (fun t ht hW => ⟨rfl, q, by rw [ht]; exact hP, hS.F ht⟩) hS.2.2 hd hlk) _ _ hP va_S.rf _ (lv_entry _ hlen)
theorem callC_go {Wd : (Nat → Nat) → va_W} {a : Array Value} (hA : ∀ q, s.heap.size ≤ q → A q) (hP : WP g A (ws ++ [(h, e0)]) H) (hS : va_S A s.heap H locs)
    (hr : va_Run p l e R s m args below meth c H locs cells slots mc ms (F0 m pc ls st) rest (QC g h H.size e0 Wd a) (va_A [(h, e0)] H.size))
    (kk : ∀ (q : Nat → Nat) (H1 : Heap) (locs1 : List Loc), WP g A (ws ++ Wd q) H1 → va_S A s.heap H1 locs1 → W p l e R s m args below meth c H1 locs1 (cells + mc) (slots + ms) Q (F0 m (pc + 3) ls rest)) : W p l e R s m args below meth c H locs cells slots Q (F0 m pc ls st) := by
  have hF : ∀ q, va_A [(h, e0)] H.size q → A q := fun q hq => by
    rcases hq with ⟨k, e, hk⟩ | hge
    · exact (suf hP).2 q ⟨k, e, hk⟩
    · exact hA q (Nat.le_trans hS.1 hge)
  intro T hT Y
  obtain ⟨v, st₀, t, T', L, h0, X', hL, e1, e2, ⟨hv, q, hp, hz, hk⟩, stp⟩ := hr T hT Y
  cases hv
  rw [h0] at hz hk
  obtain ⟨t2, a1, b1⟩ := kk q T'.heap (locs ++ L) (jn (B := va_A [(h, e0)] H.size) hP (fun q hq => hq) hF (fun q h1 h2 => by rw [e1]; exact hk q h1 h2) (by rw [e1]; exact hp))
    ⟨Nat.le_trans hS.1 (by rw [e1]; exact hz), fun q h1 h2 => by rw [e1, hk q (Nat.lt_of_lt_of_le h1 hS.1) (fun z => h2 (hF q z))]; exact hS.2.1 q h1 h2, fun q hq => by
      rcases List.mem_append.mp hq with h | h
      · exact hS.2.2 q h
      · exact hF _ (hL q h)⟩ T' rfl X'
  exact ⟨t2, stp t2 a1, b1⟩
theorem preC (X : CX g A p s m args c cc nL own) (hA : ∀ q, s.heap.size ≤ q → A q) (hP : WP g A (ws ++ [(h, e0)]) H) (hS : va_S A s.heap H locs) : PreS s H (PC g h H.size e0 As) (.ref h :: As) := by
  refine ⟨PC.blind, fun U hU hW => ⟨rfl, by rw [hU], ?_, X.2.2.2.2.2.at hS hU hW (fun q hq => ?_)⟩⟩
  · rw [hU]
    exact ⟨(suf hP).1.1, one_D (Or.inl ⟨0, e0, rfl⟩)⟩
  · rcases hq with ⟨k, e, hk⟩ | hge
    · exact (suf hP).2 q ⟨k, e, hk⟩
    · exact hA q (Nat.le_trans hS.1 hge)
/-- a nest mate's constructor called -/
theorem ctN {Wd : (Nat → Nat) → va_W} (X : CX g A p s m args c cc nL own) (hA : ∀ q, s.heap.size ≤ q → A q) (hd : decode cc pc = .ok (.invokespecial index, 3)) (hl : Cond.methodLinkNest own index y host ∈ nestW) (hM : MW y bytes maxL n none) (hi : Cond.instanceMethod y ∈ gw) (hy : y.name = "<init>") (hP : WP g A (ws ++ [(h, e0)]) H) (hS : va_S A s.heap H locs) (hC : CM g l y bytes maxL rm h e0 As Wd mc ms) (hn : As.length = n) (hsz : ls.size = nL) (hst : st = As.reverse ++ .ref h :: rest) (hro : (rest.map fun v => v.category).sum ≤ 8) (hrc : rm.cells = mc) (hrs : rm.slots = ms) (hR : rm.frames + 1 ≤ R.frames ∧ 8 + (maxL + 11) + rm.locals ≤ R.locals) (hf : cells + mc ≤ R.cells ∧ slots + ms ≤ R.slots)
    (kk : ∀ (q : Nat → Nat) (H1 : Heap) (locs1 : List Loc), WP g A (ws ++ Wd q) H1 → va_S A s.heap H1 locs1 → W p l e R s m args below meth c H1 locs1 (cells + mc) (slots + ms) Q (F0 m (pc + 3) ls rest)) : W p l e R s m args below meth c H locs cells slots Q (F0 m pc ls st) :=
  callC_go hA hP hS (va_runIN (fix_g X) (hC H.size) ⟨va_cnB n X.2.2.2.2.1 (goodG0 hM.1) rfl hrc hrs (X.2.2.2.2.2.2.2.1 _ hl) (X.2.2.2.2.1 _ hM.2.1) hM.2.2 hR, hy, X.2.2.2.2.1 _ hi⟩ (preC X hA hP hS) rfl hn hsz hst (lv_room hro) hd hf) kk
theorem ctI {Wd : (Nat → Nat) → va_W} (X : CX g A p s m args c cc nL own) (hA : ∀ q, s.heap.size ≤ q → A q) (hd : decode cc pc = .ok (.invokespecial index, 3)) (hl : Cond.methodLink own index y ∈ gw) (hM : MW y bytes maxL n none) (hi : Cond.instanceMethod y ∈ gw) (hy : y.name = "<init>") (hP : WP g A (ws ++ [(h, e0)]) H) (hS : va_S A s.heap H locs) (hC : CM g l y bytes maxL rm h e0 As Wd mc ms) (hn : As.length = n) (hsz : ls.size = nL) (hst : st = As.reverse ++ .ref h :: rest) (hro : (rest.map fun v => v.category).sum ≤ 8) (hrc : rm.cells = mc) (hrs : rm.slots = ms) (hR : rm.frames + 1 ≤ R.frames ∧ 8 + (maxL + 11) + rm.locals ≤ R.locals) (hf : cells + mc ≤ R.cells ∧ slots + ms ≤ R.slots)
    (kk : ∀ (q : Nat → Nat) (H1 : Heap) (locs1 : List Loc), WP g A (ws ++ Wd q) H1 → va_S A s.heap H1 locs1 → W p l e R s m args below meth c H1 locs1 (cells + mc) (slots + ms) Q (F0 m (pc + 3) ls rest)) : W p l e R s m args below meth c H locs cells slots Q (F0 m pc ls st) :=
  callC_go hA hP hS (va_runI (fix_g X) (hC H.size) ⟨callB_of n X.2.2.2.2.1 (goodG0 hM.1) rfl hrc hrs (X.2.2.2.2.1 _ hM.2.1) (X.2.2.2.2.1 _ hl) hM.2.2 hR, hy, X.2.2.2.2.1 _ hi⟩ (preC X hA hP hS) rfl hn hsz hst (lv_room hro) hd hf) kk
/-- java.lang.Object's constructor -/
theorem objI {idx : Nat} (X : CX g A p s m args c cc nL own) (hl : Cond.methodLink own idx Lib.objectInit ∈ gw) (hd : decode cc pc = .ok (.invokespecial idx, 3)) (hsz : ls.size = nL) (hfr : 1 ≤ R.frames) (hlo : 12 ≤ R.locals) (kk : W p l e R s m args below meth c H locs cells slots Q (F0 m (pc + 3) ls [])) : W p l e R s m args below meth c H locs cells slots Q (F0 m pc ls [.ref b]) :=
  W.objInit X.1 X.2.1 X.2.2.2.1 (X.2.2.2.2.1 _ hl) (X.2.2.2.2.1 _ (tg_1 (List.mem_of_getElem? (i := 30) rfl) rfl)) (X.2.2.2.2.1 _ (tg_1 (List.mem_of_getElem? (i := 31) rfl) rfl)) rfl (hsz.trans X.2.2.1.symm) rfl hd hfr hlo kk
/-- a nest mate's method on a world's last cells, with cells taken -/
theorem kVNG {ret : Option FieldType} {r : Option Value} {ci k0 : Nat} {fs : List Value} {cq : vw_C} (X : CX g A p s m args c cc nL own) (hcs : cells ≤ R.cells ∧ slots ≤ R.slots) (hd : decode cc pc = .ok (.invokevirtual index, 3)) (hl : Cond.methodLinkNest own index y host ∈ nestW) (hM : MW y bytes maxL n ret) (hi : Cond.instanceMethod y ∈ gw) (hs : Cond.selects C y y ∈ gw) (hP : WP g A1 w H) (hw : w[k0]? = some (b, .inr (ci, fs))) (hcq : vwCl[ci]? = some cq) (hcn : cq.1 = C) (hS : va_S A s.heap H locs) (hA : ∀ q, A1 q → A q) (hC : Std g l y (.code y bytes maxL ret :: gw) rm A1 (.ref b :: As) w w' r) (hn : As.length = n) (hsz : ls.size = nL) (hst : st = As.reverse ++ .ref b :: rest) (hro : (rest.map fun v => v.category).sum ≤ 8) (hrc : rm.cells = 0) (hrs : rm.slots = 0) (hR : rm.frames + 1 ≤ R.frames ∧ 8 + (maxL + 11) + rm.locals ≤ R.locals)
    (kk : ∀ (H1 : Heap) (locs1 : List Loc), WP g A1 w' H1 → H.size ≤ H1.size → (∀ q : Nat, q < H.size → ¬ A1 q → H1[q]? = H[q]?) → va_S A s.heap H1 locs1 → W p l e R s m args below meth c H1 locs1 cells slots Q (F0 m (pc + 3) ls (r.toList ++ rest))) : W p l e R s m args below meth c H locs cells slots Q (F0 m pc ls st) := by
  subst hcn
  exact call_goG (va_runVN (fix_g X) hC ⟨callN_g X hM (X.2.2.2.2.2.2.2.1 _ hl) hrc hrs hR, X.2.2.2.2.1 _ hi, X.2.2.2.2.1 _ hs⟩ ⟨Pst.blind, va_recv X.2.2.2.2.2.2.1 hP.1 hcq hw, (pre_g X hS hP hA).2⟩ rfl hn hsz hst (lv_room hro) hd hcs) hS hA kk
end CtorBase
