/-! ===== rows for what the statics hold ===== -/
section StatRows
variable {p : Program} {l : Launch} {e : Env} {R : Room} {s : State} {m : MethodId} {args : Array Value} {below : List Frame} {meth : Method} {c : Code} {H : Heap} {locs : List Loc} {Q : State → Prop} {g : gT} {A : Nat → Prop} {cc : ByteArray} {nL : Nat} {pc index : Nat} {ls : Array Slot} {rest : List Value} {own host C n d ref : String}
theorem vin_lt {i : Int32} {k : Nat} (h : vp_in i k) : i.toNatClampNeg < k := Nat.not_le.mp fun q => h (Or.inr q)
theorem S_big (X : CX g A p s m args c cc nL own) (hS : va_S A s.heap H locs) : va_S (gB g) s.heap H locs := ⟨hS.1, fun q h1 h2 => hS.2.1 q h1 (fun z => h2 (X.2.2.2.2.2.1 q z)), fun l hl => X.2.2.2.2.2.1 _ (hS.2.2 l hl)⟩
theorem sfX (X : CX g A p s m args c cc nL own) : SF g s s.heap := X.2.2.2.2.2.2.2.2
/-- getstatic -/
theorem sgO {v : Value} (X : CX g A p s m args c cc nL own) (hS : va_S A s.heap H locs) (hZ : va_Z C n d v (gB g) s s.heap) (hl : Cond.fieldLink own index C n d ∈ gw) (hd : decode cc pc = .ok (.getstatic index, 3)) (kk : W p l e R s m args below meth c H locs 0 0 Q (F0 m (pc + 3) ls (v :: rest))) : W p l e R s m args below meth c H locs 0 0 Q (F0 m pc ls rest) :=
  va_gets X.1 X.2.1 hZ (S_big X hS) X.2.2.2.1 (X.2.2.2.2.1 _ hl) (fun _ h => h) hd kk
theorem sgN {v : Value} (X : CX g A p s m args c cc nL own) (hS : va_S A s.heap H locs) (hZ : va_Z C n d v (gB g) s s.heap) (hl : Cond.fieldLinkNest own index C n d host ∈ nestW) (hd : decode cc pc = .ok (.getstatic index, 3)) (kk : W p l e R s m args below meth c H locs 0 0 Q (F0 m (pc + 3) ls (v :: rest))) : W p l e R s m args below meth c H locs 0 0 Q (F0 m pc ls rest) :=
  va_getsN X.1 X.2.1 hZ (S_big X hS) X.2.2.2.1 (nest_use rfl (X.2.2.2.2.2.2.2.1 _ hl)) (fun _ h => h) hd kk
/-- aaload, iaload, baload, arraylength of a static row -/
theorem stq {t N : Nat} {f : Nat → Value} {i : Int32} (X : CX g A p s m args c cc nL own) (hS : va_S A s.heap H locs) (hT : va_T (.object C) t N f (gB g) s s.heap) (hin : vp_in i N) (hd : decode cc pc = .ok (.aaload, 1)) (kk : W p l e R s m args below meth c H locs 0 0 Q (F0 m (pc + 1) ls (f i.toNatClampNeg :: rest))) : W p l e R s m args below meth c H locs 0 0 Q (F0 m pc ls (.int i :: .ref t :: rest)) :=
  vb_tq X.1 X.2.1 hT (S_big X hS) hin rfl hd kk
theorem sti {t N : Nat} {f : Nat → Value} {i : Int32} (X : CX g A p s m args c cc nL own) (hS : va_S A s.heap H locs) (hT : va_T .int t N f (gB g) s s.heap) (hin : vp_in i N) (hd : decode cc pc = .ok (.iaload, 1)) (kk : W p l e R s m args below meth c H locs 0 0 Q (F0 m (pc + 1) ls (f i.toNatClampNeg :: rest))) : W p l e R s m args below meth c H locs 0 0 Q (F0 m pc ls (.int i :: .ref t :: rest)) :=
  va_ti X.1 X.2.1 hT (S_big X hS) hin rfl hd kk
theorem stb {t N : Nat} {f : Nat → Value} {i : Int32} (X : CX g A p s m args c cc nL own) (hS : va_S A s.heap H locs) (hT : va_T .byte t N f (gB g) s s.heap) (hin : vp_in i N) (hd : decode cc pc = .ok (.baload, 1)) (kk : W p l e R s m args below meth c H locs 0 0 Q (F0 m (pc + 1) ls (f i.toNatClampNeg :: rest))) : W p l e R s m args below meth c H locs 0 0 Q (F0 m pc ls (.int i :: .ref t :: rest)) :=
  va_tb X.1 X.2.1 hT (S_big X hS) hin rfl hd kk
theorem stl {t N : Nat} {f : Nat → Value} {ty : FieldType} {v : Int32} (X : CX g A p s m args c cc nL own) (hS : va_S A s.heap H locs) (hT : va_T ty t N f (gB g) s s.heap) (hv : Int32.ofNat N = v) (hd : decode cc pc = .ok (.arraylength, 1)) (kk : W p l e R s m args below meth c H locs 0 0 Q (F0 m (pc + 1) ls (.int v :: rest))) : W p l e R s m args below meth c H locs 0 0 Q (F0 m pc ls (.ref t :: rest)) :=
  va_tlen X.1 X.2.1 hT (S_big X hS) hv hd kk
/-- a field of a constant object -/
theorem ofO {q : Nat} {v : Value} (X : CX g A p s m args c cc nL own) (hS : va_S A s.heap H locs) (hE : va_OF C n d v q (gB g) s s.heap) (hl : Cond.fieldLink own index C n d ∈ gw) (hd : decode cc pc = .ok (.getfield index, 3)) (kk : W p l e R s m args below meth c H locs 0 0 Q (F0 m (pc + 3) ls (v :: rest))) : W p l e R s m args below meth c H locs 0 0 Q (F0 m pc ls (.ref q :: rest)) :=
  vk_getf X.1 X.2.1 hE (S_big X hS) X.2.2.2.1 (X.2.2.2.2.1 _ hl) (fun _ h => h) hd kk
theorem ofN {q : Nat} {v : Value} (X : CX g A p s m args c cc nL own) (hS : va_S A s.heap H locs) (hE : va_OF C n d v q (gB g) s s.heap) (hl : Cond.fieldLinkNest own index C n d host ∈ nestW) (hd : decode cc pc = .ok (.getfield index, 3)) (kk : W p l e R s m args below meth c H locs 0 0 Q (F0 m (pc + 3) ls (v :: rest))) : W p l e R s m args below meth c H locs 0 0 Q (F0 m pc ls (.ref q :: rest)) := by
  obtain ⟨cf, k, fi, f, cell, h1, h2, h3, h4, h5, h6⟩ := hE.kept (S_big X hS).2.1
  exact va_Wgetf X.1 X.2.1 X.2.2.2.1 (nest_use rfl (X.2.2.2.2.2.2.2.1 _ hl)) h1 h2 h3 h4 (v := v) h5 rfl rfl hd kk
theorem ldS {tx : String} {q : Nat} (X : CX g A p s m args c cc nL own) (hZ : vk_R own index tx q s) (hd : decode cc pc = .ok (.ldc index, 2)) (kk : W p l e R s m args below meth c H locs 0 0 Q (F0 m (pc + 2) ls (.ref q :: rest))) : W p l e R s m args below meth c H locs 0 0 Q (F0 m pc ls rest) :=
  va_ldcS X.1 X.2.1 X.2.2.2.1 hZ hd kk
theorem p9 {i : Nat} (h : i < 6) : 9 + i < 31 := by omega
/-- ordinal() of a constant (java/lang/Enum is not said to be initialised: the call is walked here, without a contract) -/
theorem ord_row {E : String} {q : Nat} {o : Int32} (X : CX g A p s m args c cc nL own) (hsz : ls.size = nL) (hS : va_S A s.heap H locs) (hO : va_O E q (gB g) s s.heap) (hF : va_OF "java/lang/Enum" "ordinal" "I" (.int o) q (gB g) s s.heap) (hl : Cond.methodLink own index ⟨E, "ordinal", "()I"⟩ ∈ gw) (hsm : Cond.sameMethod E "java/lang/Enum" "ordinal" "()I" ∈ gw) (hse : Cond.selects E ⟨E, "ordinal", "()I"⟩ yJx29ce0_ordinal_8abf5 ∈ gw) (hf : 1 ≤ R.frames) (hlo : 20 ≤ R.locals) (hd : decode cc pc = .ok (.invokevirtual index, 3)) (kk : W p l e R s m args below meth c H locs 0 0 Q (F0 m (pc + 3) ls (.int o :: rest))) : W p l e R s m args below meth c H locs 0 0 Q (F0 m pc ls (.ref q :: rest)) := sorry
/-- length() of a text -/
theorem str_len {si : Nat} (X : CX g A p s m args c cc nL own) (hsz : ls.size = nL) (hS : va_S A s.heap H locs) (hsi : si < 31) (hl : Cond.methodLink own index yJ0_length_8abf5 ∈ gw) (hf : 2 ≤ R.frames) (hlo : 40 ≤ R.locals) (hd : decode cc pc = .ok (.invokevirtual index, 3)) (kk : W p l e R s m args below meth c H locs 0 0 Q (F0 m (pc + 3) ls (.int (Int32.ofNat (sL si)) :: rest))) : W p l e R s m args below meth c H locs 0 0 Q (F0 m pc ls (.ref (g.2 (60 + si)) :: rest)) := sorry
/-- charAt(i) of a text -/
theorem str_chr {si : Nat} {i : Int32} (X : CX g A p s m args c cc nL own) (hsz : ls.size = nL) (hS : va_S A s.heap H locs) (hsi : si < 31) (hin : vp_in i (sL si)) (hl : Cond.methodLink own index yJ0_charAt_5068e ∈ gw) (hf : 4 ≤ R.frames) (hlo : 90 ≤ R.locals) (hd : decode cc pc = .ok (.invokevirtual index, 3)) (kk : W p l e R s m args below meth c H locs 0 0 Q (F0 m (pc + 3) ls (.int (sCh si i.toNatClampNeg) :: rest))) : W p l e R s m args below meth c H locs 0 0 Q (F0 m pc ls (.int i :: .ref (g.2 (60 + si)) :: rest)) := sorry
end StatRows
