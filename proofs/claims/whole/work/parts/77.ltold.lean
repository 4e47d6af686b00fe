/-! ===== the law's told, and its turn ===== -/
abbrev oW (g : gT) (qo : Nat) (f : Nat → Int64) : va_W := [(qo, .inl (g.2 1, 1, .inr (.inl f)))]
abbrev rm_L_told : Room := { frames := 7, cells := 1, slots := 6, locals := 120 }
section LTold
variable {p : Program} {l : Launch} {e : Env} {R : Room} {s : State} {m : MethodId} {args : Array Value} {below : List Frame} {meth : Method} {c : Code} {H : Heap} {locs : List Loc} {Q : State → Prop} {g : gT} {A A1 Ax Ao : Nat → Prop} {w : va_W} {o : Option Int32} {a : Array Value} {pc : Nat} {ls : Array Slot} {st rest : List Value} {cells slots : Nat}
theorem kVX (hr : vx_Run p l e R s m args below meth c H locs cells slots 1 6 (F0 m pc ls st) rest (QtX g A1 w o a) (XtX g A1 w o) A1) (hS : va_S A s.heap H locs) (hA : ∀ q, A1 q → A q)
    (kx : ∀ (q9 : Nat) (ce : Cell) (H1 : Heap) (locs1 : List Loc), o = none → WP g A1 w H1 → H.size ≤ H1.size → (∀ q : Nat, q < H.size → ¬ A1 q → H1[q]? = H[q]?) → va_S A s.heap H1 locs1 → H1[q9]? = some ce → ce.vm = .none → s.vm.findClass nxE = some ce.cls → vx_W p l e R s m args below meth c H1 locs1 (cells + 1) (slots + 6) Q (F0 m pc ls rest) q9)
    (kk : ∀ (v : Int32) (H1 : Heap) (locs1 : List Loc), o = some v → WP g A1 w H1 → H.size ≤ H1.size → (∀ q : Nat, q < H.size → ¬ A1 q → H1[q]? = H[q]?) → va_S A s.heap H1 locs1 → W p l e R s m args below meth c H1 locs1 (cells + 1) (slots + 6) Q (F0 m (pc + 3) ls (.int v :: rest))) : W p l e R s m args below meth c H locs cells slots Q (F0 m pc ls st) := by
  intro T hT X
  rcases hr T hT X with ⟨v, st₀, t, T', L, h0, X', hL, e1, e2, ⟨r, ho, hv, hp, hF⟩, st⟩ | ⟨q, st₀, t, T', L, E, ce, h0, X', hL, e1, e2, ⟨hE, ho, hp, hF⟩, hce, hcv, hcl, st⟩
  · cases hv
    obtain ⟨k1, k2, k3⟩ := vx_keep h0 e1 hS (fun q _ h => hA q h) hA hL hF
    obtain ⟨t2, a1, b1⟩ := kk r T'.heap (locs ++ L) ho (by rw [e1]; exact hp) k1 k2 k3 T' rfl X'
    exact ⟨t2, st t2 a1, b1⟩
  · subst hE
    obtain ⟨k1, k2, k3⟩ := vx_keep h0 e1 hS (fun q _ h => hA q h) hA hL hF
    obtain ⟨t2, a1, b1⟩ := kx q ce T'.heap (locs ++ L) ho (by rw [e1]; exact hp) k1 k2 k3 (by rw [e1]; exact hce) hcv hcl T' rfl X'
    exact ⟨t2, st.trans a1, b1⟩
/-- what told leaves: 1 where the class threw; else 0, and its answer in the row -/
def QtL (g : gT) (Ax Ao : Nat → Prop) (w : va_W) (qo : Nat) (o : Option Int32) : Array Value → State → Outcome → State → Prop := fun _ st oc t =>
  ∃ (k : Int32) (f : Nat → Int64), oc = .returned (some (.int k)) ∧ WP g Ax w t.heap ∧ WP g Ao (oW g qo f) t.heap ∧ va_F (fun q => Ax q ∨ Ao q) st t ∧ ((o = none ∧ k = 1) ∨ (∃ v : Int32, o = some v ∧ k = 0 ∧ f 0 = v.toInt64))
def PtL (g : gT) (Ax Ao : Nat → Prop) (w : va_W) (qo : Nat) (f : Nat → Int64) (av : List Value) : Array Value → State → Prop := va_Pc av (fun U => WP g Ax w U.heap ∧ WP g Ao (oW g qo f) U.heap ∧ GG g (fun q => Ax q ∨ Ao q) U U.heap ∧ ST g U U.heap)
theorem PtL.blind {qo : Nat} {f : Nat → Int64} {av : List Value} : FrameBlind (PtL g Ax Ao w qo f av) := fun _ _ f mk h => ⟨h.1, h.2.1, h.2.2.1, h.2.2.2.1.blind f mk _, h.2.2.2.2.blind f mk _⟩
theorem oW_D {qo : Nat} {f : Nat → Int64} (h : A qo) : va_D A (oW g qo f) := by
  refine ⟨fun i j p q hi hj _ => ?_, fun k q hq => ?_⟩
  · cases i with
    | succ i => simp at hi
    | zero =>
      cases j with
      | succ j => simp at hj
      | zero => rfl
  · cases k with
    | succ k => simp at hq
    | zero => cases Option.some.inj hq; exact h
theorem last2 {cc : ByteArray} {nL qo : Nat} {own : String} {f : Nat → Int64} {x : Int64} (X : CX g A p s m args c cc nL own) (hW : WP g Ax w H) (hO : WP g Ao (oW g qo f) H) (hd : ∀ q, Ax q → ¬ Ao q) (hAo : ∀ q, Ao q → A q) (hS : va_S A s.heap H locs) (hdg : decode cc pc = .ok (.lastore, 1))
    (kk : ∀ (H1 : Heap) (locs1 : List Loc), WP g Ax w H1 → WP g Ao (oW g qo (vp_updL f 0 x)) H1 → va_S A s.heap H1 locs1 → W p l e R s m args below meth c H1 locs1 cells slots Q (F0 m (pc + 1) ls rest)) : W p l e R s m args below meth c H locs cells slots Q (F0 m pc ls (.long x :: .int 0 :: .ref qo :: rest)) := by
  have e0 : (0 : Int32).toNatClampNeg = 0 := by decide
  refine W.last X.1 X.2.1 (hO.1 0 _ rfl) ((X.2.2.2.2.2.2.1.2 1 (g.2 1, .long) rfl).1 1 (fun j => .long (f j))) (fun q => by cases q) (by show ¬ ((0 : Int32) < 0 ∨ (arrV _ _ _).slots.size ≤ _); rw [arrV_size]; show ¬ ((0 : Int32) < 0 ∨ 1 ≤ Int32.toNatClampNeg 0); decide) rfl rfl hdg fun H1 e z oq => ?_
  refine kk H1 _ ?_ ?_ (hS.put z oq (hAo _ (hO.2.2 0 _ rfl)))
  · refine hW.stay (A1 := fun q => q = qo) (fun q _ hn => oq q hn) (fun q h1 h2 => ?_)
    rw [h2] at h1
    exact hd _ h1 (hO.2.2 0 _ rfl)
  · refine ⟨fun k q hq => ?_, oW_D (hO.2.2 0 _ rfl)⟩
    cases k with
    | succ k => simp at hq
    | zero =>
      cases Option.some.inj hq
      show H1[qo]? = some (vp_cell _ _)
      rw [e]
      rw [vp_cell_l, vp_cell_l, arrV_store]
      congr 2
      funext q
      by_cases hq : q = (0 : Int32).toNatClampNeg
      · subst hq
        simp [updV, vp_updL]
      · simp [updV, vp_updL, hq, e0] at hq ⊢
        simp [hq]
theorem c_L_told {q0 qo : Nat} {p0 p1 : Int32} {f : Nat → Int64} {fs : List Value} (hw : w[0]? = some (q0, .inr (7, fs))) (hd : ∀ q, Ax q → ¬ Ao q)
    (hM : vx_Met l yX10_told (.code yX10_told cX10_told 3 (some .int) :: gw) rm_X10_told (PstX g Ax w [.ref q0, .int p0, .int p1]) (QtX g Ax w o) (XtX g Ax w o) 1 6 Ax) :
    vx_Met l yL_told (.codeWith yL_told cL_told 5 (some .int) [(0, 10, 13, 13)] :: gw) rm_L_told (PtL g Ax Ao w qo f [.ref q0, .int p0, .int p1, .ref qo]) (QtL g Ax Ao w qo o) (fun _ _ _ => False) 1 6 (fun q => Ax q ∨ Ao q) := by
  refine vx_ofWH (cc := cL_told) (maxL := 5) (ret := some .int) (hh := [(0, 10, 13, 13)]) (by decide) rfl ?_
  intro p e s m args below meth c s₁ B hml hv
  obtain ⟨rfl, hP, hO, hG, hST⟩ := hv
  have hts := atoms_spec (ws := .codeWith yL_told cL_told 5 (some .int) [(0, 10, 13, 13)] :: gw) B.pre
  have hown : s.vm.findClass RL = some m.cls := findClass_of_methodNamed B.named
  have htab : c.exceptionTable.toList = tableOf [(0, 10, 13, 13)] := vx_table (x := yL_told) B (hts _ List.mem_cons_self)
  rw [lg_entry_eq]
  have X : CX g (fun q => Ax q ∨ Ao q) p s m ([.ref q0, .int p0, .int p1, .ref qo] : List Value).toArray c cL_told 5 RL := ⟨B.exec, B.bytes, hml, hown, fun w h => hts w (List.mem_cons_of_mem _ h), hG⟩
  have hlk : meth.locks = false := B.notSynchronized
  have hx := X.1
  have hb := X.2.1
  have hcm : Cond.castable nxE nxE ∈ nxD := by simp [nxD]
  have key : ∀ ls : Array Slot, lv_has ls 5 [(0, .ref q0), (1, .int p0), (2, .int p1), (3, .ref qo)] → W p l e rm_L_told s m ([.ref q0, .int p0, .int p1, .ref qo] : List Value).toArray below meth c s.heap [] 0 0 (vx_MQ below (QtL g Ax Ao w qo o) (fun _ _ _ => False) ([.ref q0, .int p0, .int p1, .ref qo] : List Value).toArray s 1 6 (fun q => Ax q ∨ Ao q)) (F0 m 0 ls []) := by
    intro ls hl
    refine lv_aload_n hx hb dL_told_0 rfl (lv_at hl 3 rfl) ?_
    refine lv_iconst (v := 0) hx hb dL_told_1 rfl ?_
    refine lv_aload_n hx hb dL_told_2 rfl (lv_at hl 0 rfl) ?_
    refine lv_iload_n hx hb dL_told_3 rfl (lv_at hl 1 rfl) ?_
    refine lv_iload_n hx hb dL_told_4 rfl (lv_at hl 2 rfl) ?_
    refine kVX (A := fun q => Ax q ∨ Ao q) (A1 := Ax) (w := w) (o := o) (rest := [.int 0, .ref qo]) (vx_runV (C := RX10) (b := q0) (As := [.int p0, .int p1]) (fix_g X) hM ⟨callB_of 2 X.2.2.2.2.1 (goodG0 mw_X10_told.1) rfl rfl rfl (X.2.2.2.2.1 _ mw_X10_told.2.1) (X.2.2.2.2.1 _ wd_5_8) mw_X10_told.2.2 ⟨Nat.le_of_ble_eq_true rfl, Nat.le_of_ble_eq_true rfl⟩, X.2.2.2.2.1 _ wd_5_9, X.2.2.2.2.1 _ wd_5_10⟩ ⟨PstX.blind, va_recv (ci := 7) (q0 := 0) X.2.2.2.2.2.2.1 hP.1 rfl hw, fun U hU hW => ⟨rfl, by rw [hU]; exact hP, X.2.2.2.2.2.at va_S.rf hU hW (fun q h => Or.inl h), hST.at hG.1 va_S.rf hU hW⟩⟩ rfl rfl hl.1 rfl (lv_room (Nat.le_of_ble_eq_true rfl)) dL_told_5 ⟨Nat.le_refl _, Nat.le_refl _⟩) va_S.rf (fun q h => Or.inl h) ?_ ?_
    · intro q9 ce H1 locs1 ho hP1 z1 k1 hS1 hce hcv hcl
      have hO1 := hO.stay k1 (fun q h1 h2 => hd q h2 h1)
      refine vx_catch (own := RL) (name := nxE) (E := nxE) (ce := ce) hown [] ⟨0, 10, 13, 13⟩ [] htab (fun z hz => nomatch hz) (by decide) (by decide) (X.2.2.2.2.1 _ nx_linkL) (va_tabs (nxD_ok _ hcm).1 rfl (hST.2.2 _ hcm)) hce hcv hcl ?_
      refine lv_astore (lv' := [(4, .ref q9), (0, .ref q0), (1, .int p0), (2, .int p1), (3, .ref qo)]) hx hb dL_told_13 hl (by decide) rfl (fun ls hl => ?_)
      refine lv_iconst (v := 1) hx hb dL_told_15 rfl ?_
      exact vx_ret (W.iret hx hb B.returns (fun t ht hW => ⟨1, f, rfl, by rw [ht]; exact hP1, by rw [ht]; exact hO1, hS1.F ht, Or.inl ⟨ho, rfl⟩⟩) hS1.2.2 dL_told_16 hlk)
    · intro v H1 locs1 ho hP1 z1 k1 hS1
      have hO1 := hO.stay k1 (fun q h1 h2 => hd q h2 h1)
      refine lv_i2l hx hb dL_told_8 rfl ?_
      refine last2 X hP1 hO1 hd (fun q h => Or.inr h) hS1 dL_told_9 (fun H2 locs2 hP2 hO2 hS2 => ?_)
      refine lv_goto (tgt := 17) hx hb dL_told_10 rfl ?_
      refine lv_iconst (v := 0) hx hb dL_told_17 rfl ?_
      exact vx_ret (W.iret hx hb B.returns (fun t ht hW => ⟨0, _, rfl, by rw [ht]; exact hP2, by rw [ht]; exact hO2, hS2.F ht, Or.inr ⟨v, ho, rfl, rfl⟩⟩) hS2.2.2 dL_told_18 hlk)
  exact key _ (lv_entry _ (Nat.le_of_ble_eq_true rfl))
end LTold
