def wTape (g : gT) (a0 a1 : Nat) (t_length : Int32) (t_bytes : Nat → Int32) : va_W := [(a0, .inr (3, [.ref a1, .int t_length])), (a1, .inl (g.2 0, 400, .inl t_bytes))]
def wScan (g : gT) (a0 a1 a2 : Nat) (s_at : Int32) (t_length : Int32) (t_bytes : Nat → Int32) : va_W := [(a0, .inr (2, [.ref a1, .int s_at])), (a1, .inr (3, [.ref a2, .int t_length])), (a2, .inl (g.2 0, 400, .inl t_bytes))]
theorem gf_X6_15_Tape_0 {p : Program} {l : Launch} {e : Env} {R : Room} {s : State} {m : MethodId} {args : Array Value} {below : List Frame} {meth : Method} {c : Code} {H : Heap} {locs : List Loc} {Q : State → Prop} {g : gT} {A : Nat → Prop} {cc : ByteArray} {nL : Nat} {pc : Nat} {ls : Array Slot} {rest : List Value} {a0 a1 : Nat} {t_length : Int32} {t_bytes : Nat → Int32} (X : CX g A p s m args c cc nL RX6) (hP : WP g A (wTape g a0 a1 t_length t_bytes) H) (hd : decode cc pc = .ok (.getfield 15, 3)) (kk : W p l e R s m args below meth c H locs 0 0 Q (F0 m (pc + 3) ls (.int t_length :: rest))) : W p l e R s m args below meth c H locs 0 0 Q (F0 m pc ls (.ref a0 :: rest)) :=
  va_get (D := g.1) (ci := 3) (v := .int t_length) (C := RX6) (T := TX6) (N := 2) X.1 X.2.1 X.2.2.2.2.1 lay_X6 X.2.2.2.1 X.2.2.2.2.2.2.1 hP.1 0 rfl rfl 1 (by decide) (X.2.2.2.2.1 _ wd_1_42) (fun _ h => h) rfl hd kk
theorem gf_X6_9_Tape_0 {p : Program} {l : Launch} {e : Env} {R : Room} {s : State} {m : MethodId} {args : Array Value} {below : List Frame} {meth : Method} {c : Code} {H : Heap} {locs : List Loc} {Q : State → Prop} {g : gT} {A : Nat → Prop} {cc : ByteArray} {nL : Nat} {pc : Nat} {ls : Array Slot} {rest : List Value} {a0 a1 : Nat} {t_length : Int32} {t_bytes : Nat → Int32} (X : CX g A p s m args c cc nL RX6) (hP : WP g A (wTape g a0 a1 t_length t_bytes) H) (hd : decode cc pc = .ok (.getfield 9, 3)) (kk : W p l e R s m args below meth c H locs 0 0 Q (F0 m (pc + 3) ls (.ref a1 :: rest))) : W p l e R s m args below meth c H locs 0 0 Q (F0 m pc ls (.ref a0 :: rest)) :=
  va_get (D := g.1) (ci := 3) (v := .ref a1) (C := RX6) (T := TX6) (N := 2) X.1 X.2.1 X.2.2.2.2.1 lay_X6 X.2.2.2.1 X.2.2.2.2.2.2.1 hP.1 0 rfl rfl 0 (by decide) (X.2.2.2.2.1 _ wd_1_38) (fun _ h => h) rfl hd kk
theorem as_Tape_1 {p : Program} {l : Launch} {e : Env} {R : Room} {s : State} {m : MethodId} {args : Array Value} {below : List Frame} {meth : Method} {c : Code} {H : Heap} {locs : List Loc} {Q : State → Prop} {g : gT} {A : Nat → Prop} {cc : ByteArray} {nL : Nat} {pc : Nat} {ls : Array Slot} {rest : List Value} {a0 a1 : Nat} {t_length : Int32} {t_bytes : Nat → Int32} {i : Int32} {v0 : Int32} {own : String} (X : CX g A p s m args c cc nL own) (hP : WP g A (wTape g a0 a1 t_length t_bytes) H) (hS : va_S A s.heap H locs) (hin : vp_in i 400) (hd : decode cc pc = .ok (.iastore, 1)) (kk : ∀ (H1 : Heap) (locs1 : List Loc), WP g A (wTape g a0 a1 t_length (upd t_bytes i.toNatClampNeg v0)) H1 → va_S A s.heap H1 locs1 → W p l e R s m args below meth c H1 locs1 0 0 Q (F0 m (pc + 1) ls rest)) : W p l e R s m args below meth c H locs 0 0 Q (F0 m pc ls (.int v0 :: .int i :: .ref a1 :: rest)) :=
  va_iast (D := g.1) X.1 X.2.1 X.2.2.2.2.2.2.1 hP.1 hP.2 hS 1 0 rfl rfl hin hd (fun H1 locs1 h1 h2 h3 => kk H1 locs1 ⟨h1, h2⟩ h3)
theorem pf_X6_15_Tape_0 {p : Program} {l : Launch} {e : Env} {R : Room} {s : State} {m : MethodId} {args : Array Value} {below : List Frame} {meth : Method} {c : Code} {H : Heap} {locs : List Loc} {Q : State → Prop} {g : gT} {A : Nat → Prop} {cc : ByteArray} {nL : Nat} {pc : Nat} {ls : Array Slot} {rest : List Value} {a0 a1 : Nat} {t_length : Int32} {t_bytes : Nat → Int32} {v0 : Int32} (X : CX g A p s m args c cc nL RX6) (hP : WP g A (wTape g a0 a1 t_length t_bytes) H) (hS : va_S A s.heap H locs) (hd : decode cc pc = .ok (.putfield 15, 3)) (kk : ∀ (H1 : Heap) (locs1 : List Loc), WP g A (wTape g a0 a1 v0 t_bytes) H1 → va_S A s.heap H1 locs1 → W p l e R s m args below meth c H1 locs1 0 0 Q (F0 m (pc + 3) ls rest)) : W p l e R s m args below meth c H locs 0 0 Q (F0 m pc ls (.int v0 :: .ref a0 :: rest)) :=
  va_put (D := g.1) (ci := 3) (v := .int v0) (ty := .int) (C := RX6) (T := TX6) (N := 2) X.1 X.2.1 X.2.2.2.2.1 lay_X6 tyX6 tyX6_ok nmX6 X.2.2.2.1 X.2.2.2.2.2.2.1 hP.1 hP.2 hS 0 rfl rfl 1 (by decide) (X.2.2.2.2.1 _ wd_1_42) (fun _ h => h) rfl (by decide +kernel) rfl rfl (Nat.le_of_ble_eq_true rfl) hd (fun H1 locs1 h1 h2 h3 => kk H1 locs1 ⟨h1, h2⟩ h3)
theorem gf_X5_13_Scan_0 {p : Program} {l : Launch} {e : Env} {R : Room} {s : State} {m : MethodId} {args : Array Value} {below : List Frame} {meth : Method} {c : Code} {H : Heap} {locs : List Loc} {Q : State → Prop} {g : gT} {A : Nat → Prop} {cc : ByteArray} {nL : Nat} {pc : Nat} {ls : Array Slot} {rest : List Value} {a0 a1 a2 : Nat} {s_at : Int32} {t_length : Int32} {t_bytes : Nat → Int32} (X : CX g A p s m args c cc nL RX5) (hP : WP g A (wScan g a0 a1 a2 s_at t_length t_bytes) H) (hd : decode cc pc = .ok (.getfield 13, 3)) (kk : W p l e R s m args below meth c H locs 0 0 Q (F0 m (pc + 3) ls (.int s_at :: rest))) : W p l e R s m args below meth c H locs 0 0 Q (F0 m pc ls (.ref a0 :: rest)) :=
  va_get (D := g.1) (ci := 2) (v := .int s_at) (C := RX5) (T := TX5) (N := 2) X.1 X.2.1 X.2.2.2.2.1 lay_X5 X.2.2.2.1 X.2.2.2.2.2.2.1 hP.1 0 rfl rfl 1 (by decide) (X.2.2.2.2.1 _ wd_1_62) (fun _ h => h) rfl hd kk
theorem gf_X5_7_Scan_0 {p : Program} {l : Launch} {e : Env} {R : Room} {s : State} {m : MethodId} {args : Array Value} {below : List Frame} {meth : Method} {c : Code} {H : Heap} {locs : List Loc} {Q : State → Prop} {g : gT} {A : Nat → Prop} {cc : ByteArray} {nL : Nat} {pc : Nat} {ls : Array Slot} {rest : List Value} {a0 a1 a2 : Nat} {s_at : Int32} {t_length : Int32} {t_bytes : Nat → Int32} (X : CX g A p s m args c cc nL RX5) (hP : WP g A (wScan g a0 a1 a2 s_at t_length t_bytes) H) (hd : decode cc pc = .ok (.getfield 7, 3)) (kk : W p l e R s m args below meth c H locs 0 0 Q (F0 m (pc + 3) ls (.ref a1 :: rest))) : W p l e R s m args below meth c H locs 0 0 Q (F0 m pc ls (.ref a0 :: rest)) :=
  va_get (D := g.1) (ci := 2) (v := .ref a1) (C := RX5) (T := TX5) (N := 2) X.1 X.2.1 X.2.2.2.2.1 lay_X5 X.2.2.2.1 X.2.2.2.2.2.2.1 hP.1 0 rfl rfl 0 (by decide) (X.2.2.2.2.1 _ wd_1_61) (fun _ h => h) rfl hd kk
theorem gf_X5_17_Scan_1 {p : Program} {l : Launch} {e : Env} {R : Room} {s : State} {m : MethodId} {args : Array Value} {below : List Frame} {meth : Method} {c : Code} {H : Heap} {locs : List Loc} {Q : State → Prop} {g : gT} {A : Nat → Prop} {cc : ByteArray} {nL : Nat} {pc : Nat} {ls : Array Slot} {rest : List Value} {a0 a1 a2 : Nat} {s_at : Int32} {t_length : Int32} {t_bytes : Nat → Int32} (X : CX g A p s m args c cc nL RX5) (hP : WP g A (wScan g a0 a1 a2 s_at t_length t_bytes) H) (hd : decode cc pc = .ok (.getfield 17, 3)) (kk : W p l e R s m args below meth c H locs 0 0 Q (F0 m (pc + 3) ls (.int t_length :: rest))) : W p l e R s m args below meth c H locs 0 0 Q (F0 m pc ls (.ref a1 :: rest)) :=
  va_getN (D := g.1) (ci := 3) (v := .int t_length) (C := RX6) (T := TX6) (N := 2) X.1 X.2.1 X.2.2.2.2.1 lay_X6 X.2.2.2.1 X.2.2.2.2.2.2.1 hP.1 1 rfl rfl 1 (by decide) (nest_use rfl (X.2.2.2.2.2.2.2.1 _ wd_1_40)) (fun _ h => h) rfl hd kk
theorem gf_X5_22_Scan_1 {p : Program} {l : Launch} {e : Env} {R : Room} {s : State} {m : MethodId} {args : Array Value} {below : List Frame} {meth : Method} {c : Code} {H : Heap} {locs : List Loc} {Q : State → Prop} {g : gT} {A : Nat → Prop} {cc : ByteArray} {nL : Nat} {pc : Nat} {ls : Array Slot} {rest : List Value} {a0 a1 a2 : Nat} {s_at : Int32} {t_length : Int32} {t_bytes : Nat → Int32} (X : CX g A p s m args c cc nL RX5) (hP : WP g A (wScan g a0 a1 a2 s_at t_length t_bytes) H) (hd : decode cc pc = .ok (.getfield 22, 3)) (kk : W p l e R s m args below meth c H locs 0 0 Q (F0 m (pc + 3) ls (.ref a2 :: rest))) : W p l e R s m args below meth c H locs 0 0 Q (F0 m pc ls (.ref a1 :: rest)) :=
  va_getN (D := g.1) (ci := 3) (v := .ref a2) (C := RX6) (T := TX6) (N := 2) X.1 X.2.1 X.2.2.2.2.1 lay_X6 X.2.2.2.1 X.2.2.2.2.2.2.1 hP.1 1 rfl rfl 0 (by decide) (nest_use rfl (X.2.2.2.2.2.2.2.1 _ wd_1_39)) (fun _ h => h) rfl hd kk
theorem al_Scan_2 {p : Program} {l : Launch} {e : Env} {R : Room} {s : State} {m : MethodId} {args : Array Value} {below : List Frame} {meth : Method} {c : Code} {H : Heap} {locs : List Loc} {Q : State → Prop} {g : gT} {A : Nat → Prop} {cc : ByteArray} {nL : Nat} {pc : Nat} {ls : Array Slot} {rest : List Value} {a0 a1 a2 : Nat} {s_at : Int32} {t_length : Int32} {t_bytes : Nat → Int32} {i : Int32} {own : String} (X : CX g A p s m args c cc nL own) (hP : WP g A (wScan g a0 a1 a2 s_at t_length t_bytes) H) (hin : vp_in i 400) (hd : decode cc pc = .ok (.iaload, 1)) (kk : W p l e R s m args below meth c H locs 0 0 Q (F0 m (pc + 1) ls (.int (t_bytes i.toNatClampNeg) :: rest))) : W p l e R s m args below meth c H locs 0 0 Q (F0 m pc ls (.int i :: .ref a2 :: rest)) :=
  va_iald (D := g.1) X.1 X.2.1 X.2.2.2.2.2.2.1 hP.1 2 0 rfl rfl hin hd kk
theorem pf_X5_13_Scan_0 {p : Program} {l : Launch} {e : Env} {R : Room} {s : State} {m : MethodId} {args : Array Value} {below : List Frame} {meth : Method} {c : Code} {H : Heap} {locs : List Loc} {Q : State → Prop} {g : gT} {A : Nat → Prop} {cc : ByteArray} {nL : Nat} {pc : Nat} {ls : Array Slot} {rest : List Value} {a0 a1 a2 : Nat} {s_at : Int32} {t_length : Int32} {t_bytes : Nat → Int32} {v0 : Int32} (X : CX g A p s m args c cc nL RX5) (hP : WP g A (wScan g a0 a1 a2 s_at t_length t_bytes) H) (hS : va_S A s.heap H locs) (hd : decode cc pc = .ok (.putfield 13, 3)) (kk : ∀ (H1 : Heap) (locs1 : List Loc), WP g A (wScan g a0 a1 a2 v0 t_length t_bytes) H1 → va_S A s.heap H1 locs1 → W p l e R s m args below meth c H1 locs1 0 0 Q (F0 m (pc + 3) ls rest)) : W p l e R s m args below meth c H locs 0 0 Q (F0 m pc ls (.int v0 :: .ref a0 :: rest)) :=
  va_put (D := g.1) (ci := 2) (v := .int v0) (ty := .int) (C := RX5) (T := TX5) (N := 2) X.1 X.2.1 X.2.2.2.2.1 lay_X5 tyX5 tyX5_ok nmX5 X.2.2.2.1 X.2.2.2.2.2.2.1 hP.1 hP.2 hS 0 rfl rfl 1 (by decide) (X.2.2.2.2.1 _ wd_1_62) (fun _ h => h) rfl (by decide +kernel) rfl rfl (Nat.le_of_ble_eq_true rfl) hd (fun H1 locs1 h1 h2 h3 => kk H1 locs1 ⟨h1, h2⟩ h3)
def f_X6_bytesTold_b25   (k5 : Int32 → Int32 → Int32 → Option (Int32)) (x0 : Int32) (x2 : Int32) (t0 : Int32) (t1 : Bool) : Option (Int32) := lt (t0 + (bI t1)) (fun v2 => lt (x2 + (-8)) (fun v3 => k5 x0 v2 v3))
def f_X6_bytesTold_l5    : Nat → Int32 → Int32 → Int32 → Option (Int32)
  | 0, _, _, _ => none
  | n + 1, x0, x1, x2 => if x2 < 0 then (some (x1)) else (lt ((if ((x0 >>> (x2 &&& 31)) &&& (255 : Int32)) = 0 then false else true) : Bool) (fun v1 => f_X6_bytesTold_b25   (f_X6_bytesTold_l5    n)  x0 x2 x1 v1))
def f_X6_bytesTold (p0 : Int32)  : Option (Int32) := f_X6_bytesTold_l5    FU p0 (0 : Int32) (24 : Int32)
def f_X6_append_b49   (k3 : Int32 → Int32 → Int32 → (Nat → Int32) → Option (Int32 × (Nat → Int32))) (x1 : Int32) (x2 : Int32) (t_length : Int32) (t_bytes : Nat → Int32) : Option (Int32 × (Nat → Int32)) := lt (x2 + (-8)) (fun v2 => k3 x1 v2 t_length t_bytes)
def f_X6_append_l3    : Nat → Int32 → Int32 → Int32 → (Nat → Int32) → Option (Int32 × (Nat → Int32))
  | 0, _, _, _, _ => none
  | n + 1, x1, x2, t_length, t_bytes => if x2 < 0 then (some (t_length, t_bytes)) else (lt ((x1 >>> (x2 &&& 31)) &&& (255 : Int32)) (fun v1 => if v1 = 0 then (f_X6_append_b49   (f_X6_append_l3    n)  x1 x2 t_length t_bytes) else (if (400 : Int32) ≤ t_length then (f_X6_append_b49   (f_X6_append_l3    n)  x1 x2 t_length t_bytes) else (gv t_length 400 (lt (t_length + (1 : Int32)) (fun v3 => f_X6_append_b49   (f_X6_append_l3    n)  x1 x2 v3 (upd t_bytes (t_length).toNatClampNeg v1)))))))
def f_X6_append (p0 : Int32) (t_length : Int32) (t_bytes : Nat → Int32) : Option (Int32 × (Nat → Int32)) := f_X6_append_l3    FU p0 (24 : Int32) t_length t_bytes
def f_X5_here_b36  (s_at : Int32) (t_length : Int32) (t_bytes : Nat → Int32)   : Option (Int32) := some ((0 : Int32))
def f_X5_here  (s_at : Int32) (t_length : Int32) (t_bytes : Nat → Int32) : Option (Int32) := if s_at < 0 then (f_X5_here_b36  s_at t_length t_bytes   ) else (if t_length ≤ s_at then (f_X5_here_b36  s_at t_length t_bytes   ) else (gv s_at 400 (some ((t_bytes (s_at).toNatClampNeg)))))
def f_X5_skipBlanks_l0  (t_length : Int32) (t_bytes : Nat → Int32)  : Nat → Int32 → Option (Int32)
  | 0, _ => none
  | n + 1, s_at => if t_length ≤ s_at then (some (s_at)) else (bd (f_X5_here  s_at t_length t_bytes) (fun o1 => if o1 = (32 : Int32) then (lt (s_at + (1 : Int32)) (fun v2 => (f_X5_skipBlanks_l0  t_length t_bytes  n) v2)) else (some (s_at))))
def f_X5_skipBlanks  (s_at : Int32) (t_length : Int32) (t_bytes : Nat → Int32) : Option (Int32) := f_X5_skipBlanks_l0  t_length t_bytes  FU s_at
abbrev rm_X6_bytesTold : Room := { frames := 0, cells := 0, slots := 0, locals := 0 }
set_option maxRecDepth 100000 in
set_option maxHeartbeats 4000000 in
theorem c_X6_bytesTold {g : gT} {l : Launch} {A : Nat → Prop} {w : va_W} {p0 : Int32} {o : Int32} (h : f_X6_bytesTold p0  = some o) : Std g l yX6_bytesTold (.code yX6_bytesTold cX6_bytesTold 3 (some .int) :: gw) rm_X6_bytesTold A [.int p0] w w (some (.int o)) := by
  refine std_i (own := RX6) (by decide +kernel) rfl (Nat.le_of_ble_eq_true rfl) ?_
  intro p e s m args below meth c Q X ret hP hS ls hl
  have hx := X.1
  have hb := X.2.1
  have hl : lv_has ls 3 [(0, .int p0)] := hl
  have ret : ∀ {H : Heap} {locs : List Loc} {pc : Nat} {ls : Array Slot} {v : Int32} , some (v) = some o → WP g A w H → va_S A s.heap H locs → decode cX6_bytesTold pc = .ok (.ireturn, 1) → W p l e rm_X6_bytesTold s m args below meth c H locs 0 0 Q (F0 m pc ls [.int v]) := by
    intro H locs pc ls v h hP hS hd
    cases h
    exact ret hP hS hd
  have b25 : ∀ (k5 : Int32 → Int32 → Int32 → Option (Int32)) (hk5 : ∀ (x0 : Int32) (x1 : Int32) (x2 : Int32) (H : Heap) (locs : List Loc) (ls : Array Slot), k5 x0 x1 x2 = some o → WP g A w H → va_S A s.heap H locs → lv_has ls 3 [(0, .int x0), (1, .int x1), (2, .int x2)] → W p l e rm_X6_bytesTold s m args below meth c H locs 0 0 Q (F0 m 5 ls [])) , ∀ (x0 : Int32) (x2 : Int32) (t0 : Int32) (t1 : Bool) (H : Heap) (locs : List Loc) (ls : Array Slot), f_X6_bytesTold_b25   k5 x0 x2 t0 t1 = some o → WP g A w H → va_S A s.heap H locs → lv_has ls 3 [(0, .int x0), (2, .int x2)] → W p l e rm_X6_bytesTold s m args below meth c H locs 0 0 Q (F0 m 25 ls [.int (bI t1), .int t0]) := by
    intro k5 hk5 x0 x2 t0 t1 H locs ls h hP hS hl
    unfold f_X6_bytesTold_b25 at h
    refine lv_iadd hx hb dX6_bytesTold_25 ?_
    refine lv_topi (fun v2 ev2 => ?_)
    have h := lt_at ev2 h
    refine lv_istore_n (lv' := [(1, .int v2), (0, .int x0), (2, .int x2)]) hx hb dX6_bytesTold_26 rfl hl (by decide) rfl (fun ls hl => ?_)
    obtain ⟨v3, ev3⟩ : ∃ z : Int32, z = (x2 + (-8)) := ⟨_, rfl⟩
    have h := lt_at ev3 h
    refine lv_iinc (v := v3) (lv' := [(2, .int v3), (1, .int v2), (0, .int x0)]) hx hb dX6_bytesTold_27 hl (k := 2) rfl (by rw [ev3]; rfl) (by decide) rfl (fun ls hl => ?_)
    refine lv_goto (tgt := 5) hx hb dX6_bytesTold_30 rfl ?_
    exact hk5 x0 v2 v3 _ _ _ h hP hS (lv_sub hl [2, 1, 0] rfl)
  have l5 : ∀ (n : Nat), ∀ (x0 : Int32) (x1 : Int32) (x2 : Int32) (H : Heap) (locs : List Loc) (ls : Array Slot), f_X6_bytesTold_l5    n x0 x1 x2 = some o → WP g A w H → va_S A s.heap H locs → lv_has ls 3 [(0, .int x0), (1, .int x1), (2, .int x2)] → W p l e rm_X6_bytesTold s m args below meth c H locs 0 0 Q (F0 m 5 ls []) := by
    intro  n
    induction n with
    | zero =>
      intro x0 x1 x2 H locs ls h
      exact nz_of h
    | succ n ih =>
      intro x0 x1 x2 H locs ls h hP hS hl
      rw [f_X6_bytesTold_l5] at h
      refine lv_iload_n hx hb dX6_bytesTold_5 rfl (lv_at hl 2 rfl) ?_
      refine lv_if_lt (tgt := 33) hx hb dX6_bytesTold_6 rfl (fun c6 => ?_) (fun c6 => ?_)
      · have h := br_p c6 h
        refine lv_iload_n hx hb dX6_bytesTold_33 rfl (lv_at hl 1 rfl) ?_
        exact ret h hP hS dX6_bytesTold_34
      · have h := br_n c6 h
        refine lv_iload_n hx hb dX6_bytesTold_9 rfl (lv_at hl 1 rfl) ?_
        refine lv_iload_n hx hb dX6_bytesTold_10 rfl (lv_at hl 0 rfl) ?_
        refine lv_iload_n hx hb dX6_bytesTold_11 rfl (lv_at hl 2 rfl) ?_
        refine lv_ishr hx hb dX6_bytesTold_12 ?_
        refine lv_sipush (v := 255) hx hb dX6_bytesTold_13 rfl ?_
        refine lv_iand hx hb dX6_bytesTold_16 ?_
        refine jx1 h (P := fun (v1 : Bool) => ∀ ls : Array Slot, lv_has ls 3 [(0, .int x0), (2, .int x2)] → W p l e rm_X6_bytesTold s m args below meth c H locs 0 0 Q (F0 m 25 ls [.int (bI v1), .int x1])) ?_ ?_
        · intro v1 h ls hl
          exact b25 (f_X6_bytesTold_l5    n) ih  x0 x2 x1 v1 _ _ _ h hP hS (lv_sub hl [0, 1] rfl)
        · intro J h
          refine lv_if_eq (tgt := 24) hx hb dX6_bytesTold_17 rfl (fun c17 => ?_) (fun c17 => ?_)
          · refine lv_iconst (v := 0) hx hb dX6_bytesTold_24 rfl ?_
            exact J _ (lt_v (lt_ip c17 h)) ls (lv_sub hl [0, 2] rfl)
          · refine lv_iconst (v := 1) hx hb dX6_bytesTold_20 rfl ?_
            refine lv_goto (tgt := 25) hx hb dX6_bytesTold_21 rfl ?_
            exact J _ (lt_v (lt_in c17 h)) ls (lv_sub hl [0, 2] rfl)
  unfold f_X6_bytesTold at h
  refine lv_iconst (v := 0) hx hb dX6_bytesTold_0 rfl ?_
  refine lv_istore_n (lv' := [(1, .int 0), (0, .int p0)]) hx hb dX6_bytesTold_1 rfl hl (by decide) rfl (fun ls hl => ?_)
  refine lv_bipush (v := 24) hx hb dX6_bytesTold_2 rfl ?_
  refine lv_istore_n (lv' := [(2, .int 24), (1, .int 0), (0, .int p0)]) hx hb dX6_bytesTold_4 rfl hl (by decide) rfl (fun ls hl => ?_)
  exact l5  FU p0 (0 : Int32) (24 : Int32) _ _ _ h hP hS (lv_sub hl [2, 1, 0] rfl)
abbrev rm_X6_append : Room := { frames := 0, cells := 0, slots := 0, locals := 0 }
set_option maxRecDepth 100000 in
set_option maxHeartbeats 4000000 in
theorem c_X6_append {g : gT} {l : Launch} {A : Nat → Prop} {a0 a1 : Nat} {t_length : Int32} {t_bytes : Nat → Int32} {p0 : Int32} {o : Int32 × (Nat → Int32)} (h : f_X6_append p0 t_length t_bytes = some o) : Std g l yX6_append (.code yX6_append cX6_append 4 none :: gw) rm_X6_append A [.ref a0, .int p0] (wTape g a0 a1 t_length t_bytes) (wTape g a0 a1 o.1 o.2) none := by
  refine std_v (own := RX6) (by decide +kernel) rfl (Nat.le_of_ble_eq_true rfl) ?_
  intro p e s m args below meth c Q X ret hP hS ls hl
  have hx := X.1
  have hb := X.2.1
  have hl : lv_has ls 4 [(0, .ref a0), (1, .int p0)] := hl
  have ret : ∀ {H : Heap} {locs : List Loc} {pc : Nat} {ls : Array Slot} {t_length : Int32} {t_bytes : Nat → Int32}, some (t_length, t_bytes) = some o → WP g A (wTape g a0 a1 t_length t_bytes) H → va_S A s.heap H locs → decode cX6_append pc = .ok (.return_, 1) → W p l e rm_X6_append s m args below meth c H locs 0 0 Q (F0 m pc ls []) := by
    intro H locs pc ls t_length t_bytes h hP hS hd
    cases h
    exact ret hP hS hd
  have b49 : ∀ (k3 : Int32 → Int32 → Int32 → (Nat → Int32) → Option (Int32 × (Nat → Int32))) (hk3 : ∀ (x1 : Int32) (x2 : Int32) (t_length : Int32) (t_bytes : Nat → Int32) (H : Heap) (locs : List Loc) (ls : Array Slot), k3 x1 x2 t_length t_bytes = some o → WP g A (wTape g a0 a1 t_length t_bytes) H → va_S A s.heap H locs → lv_has ls 4 [(0, .ref a0), (1, .int x1), (2, .int x2)] → W p l e rm_X6_append s m args below meth c H locs 0 0 Q (F0 m 3 ls [])) , ∀ (x1 : Int32) (x2 : Int32) (t_length : Int32) (t_bytes : Nat → Int32) (H : Heap) (locs : List Loc) (ls : Array Slot), f_X6_append_b49   k3 x1 x2 t_length t_bytes = some o → WP g A (wTape g a0 a1 t_length t_bytes) H → va_S A s.heap H locs → lv_has ls 4 [(0, .ref a0), (1, .int x1), (2, .int x2)] → W p l e rm_X6_append s m args below meth c H locs 0 0 Q (F0 m 49 ls []) := by
    intro k3 hk3 x1 x2 t_length t_bytes H locs ls h hP hS hl
    unfold f_X6_append_b49 at h
    obtain ⟨v2, ev2⟩ : ∃ z : Int32, z = (x2 + (-8)) := ⟨_, rfl⟩
    have h := lt_at ev2 h
    refine lv_iinc (v := v2) (lv' := [(2, .int v2), (0, .ref a0), (1, .int x1)]) hx hb dX6_append_49 hl (k := 2) rfl (by rw [ev2]; rfl) (by decide) rfl (fun ls hl => ?_)
    refine lv_goto (tgt := 3) hx hb dX6_append_52 rfl ?_
    exact hk3 x1 v2 t_length t_bytes _ _ _ h hP hS (lv_sub hl [1, 2, 0] rfl)
  have l3 : ∀ (n : Nat), ∀ (x1 : Int32) (x2 : Int32) (t_length : Int32) (t_bytes : Nat → Int32) (H : Heap) (locs : List Loc) (ls : Array Slot), f_X6_append_l3    n x1 x2 t_length t_bytes = some o → WP g A (wTape g a0 a1 t_length t_bytes) H → va_S A s.heap H locs → lv_has ls 4 [(0, .ref a0), (1, .int x1), (2, .int x2)] → W p l e rm_X6_append s m args below meth c H locs 0 0 Q (F0 m 3 ls []) := by
    intro  n
    induction n with
    | zero =>
      intro x1 x2 t_length t_bytes H locs ls h
      exact nz_of h
    | succ n ih =>
      intro x1 x2 t_length t_bytes H locs ls h hP hS hl
      rw [f_X6_append_l3] at h
      refine lv_iload_n hx hb dX6_append_3 rfl (lv_at hl 2 rfl) ?_
      refine lv_if_lt (tgt := 55) hx hb dX6_append_4 rfl (fun c4 => ?_) (fun c4 => ?_)
      · have h := br_p c4 h
        exact ret h hP hS dX6_append_55
      · have h := br_n c4 h
        refine lv_iload_n hx hb dX6_append_7 rfl (lv_at hl 1 rfl) ?_
        refine lv_iload_n hx hb dX6_append_8 rfl (lv_at hl 2 rfl) ?_
        refine lv_ishr hx hb dX6_append_9 ?_
        refine lv_sipush (v := 255) hx hb dX6_append_10 rfl ?_
        refine lv_iand hx hb dX6_append_13 ?_
        refine lv_topi (fun v1 ev1 => ?_)
        have h := lt_at ev1 h
        refine lv_istore_n (lv' := [(3, .int v1), (0, .ref a0), (1, .int x1), (2, .int x2)]) hx hb dX6_append_14 rfl hl (by decide) rfl (fun ls hl => ?_)
        refine lv_iload_n hx hb dX6_append_15 rfl (lv_at hl 0 rfl) ?_
        refine lv_if_eq (tgt := 49) hx hb dX6_append_16 rfl (fun c16 => ?_) (fun c16 => ?_)
        · have h := br_p c16 h
          exact b49 (f_X6_append_l3    n) ih  x1 x2 t_length t_bytes _ _ _ h hP hS (lv_sub hl [1, 2, 3] rfl)
        · have h := br_n c16 h
          refine lv_aload_n hx hb dX6_append_19 rfl (lv_at hl 1 rfl) ?_
          refine gf_X6_15_Tape_0 X hP dX6_append_20 ?_
          refine lv_sipush (v := 400) hx hb dX6_append_23 rfl ?_
          refine lv_icmp_ge (tgt := 49) hx hb dX6_append_26 rfl (fun c26 => ?_) (fun c26 => ?_)
          · have h := br_p c26 h
            exact b49 (f_X6_append_l3    n) ih  x1 x2 t_length t_bytes _ _ _ h hP hS (lv_sub hl [1, 2, 3] rfl)
          · have h := br_n c26 h
            refine lv_aload_n hx hb dX6_append_29 rfl (lv_at hl 1 rfl) ?_
            refine gf_X6_9_Tape_0 X hP dX6_append_30 ?_
            refine lv_aload_n hx hb dX6_append_33 rfl (lv_at hl 1 rfl) ?_
            refine gf_X6_15_Tape_0 X hP dX6_append_34 ?_
            refine lv_iload_n hx hb dX6_append_37 rfl (lv_at hl 0 rfl) ?_
            obtain ⟨hi38, h⟩ := gv_of h
            refine as_Tape_1 (v0 := v1) X hP hS hi38 dX6_append_38 (fun H locs hP hS => ?_)
            refine lv_aload_n hx hb dX6_append_39 rfl (lv_at hl 1 rfl) ?_
            refine lv_dup hx hb dX6_append_40 rfl ?_
            refine gf_X6_15_Tape_0 X hP dX6_append_41 ?_
            refine lv_iconst (v := 1) hx hb dX6_append_44 rfl ?_
            refine lv_iadd hx hb dX6_append_45 ?_
            refine lv_topi (fun v3 ev3 => ?_)
            have h := lt_at ev3 h
            refine pf_X6_15_Tape_0 (v0 := v3) X hP hS dX6_append_46 (fun H locs hP hS => ?_)
            exact b49 (f_X6_append_l3    n) ih  x1 x2 v3 (upd t_bytes (t_length).toNatClampNeg v1) _ _ _ h hP hS (lv_sub hl [1, 2, 3] rfl)
  unfold f_X6_append at h
  refine lv_bipush (v := 24) hx hb dX6_append_0 rfl ?_
  refine lv_istore_n (lv' := [(2, .int 24), (0, .ref a0), (1, .int p0)]) hx hb dX6_append_2 rfl hl (by decide) rfl (fun ls hl => ?_)
  exact l3  FU p0 (24 : Int32) t_length t_bytes _ _ _ h hP hS (lv_sub hl [1, 2, 0] rfl)
abbrev rm_X5_here : Room := { frames := 0, cells := 0, slots := 0, locals := 0 }
set_option maxRecDepth 100000 in
set_option maxHeartbeats 4000000 in
theorem c_X5_here {g : gT} {l : Launch} {A : Nat → Prop} {a0 a1 a2 : Nat} {s_at : Int32} {t_length : Int32} {t_bytes : Nat → Int32}  {o : Int32} (h : f_X5_here  s_at t_length t_bytes = some o) : Std g l yX5_here (.code yX5_here cX5_here 1 (some .int) :: gw) rm_X5_here A [.ref a0] (wScan g a0 a1 a2 s_at t_length t_bytes) (wScan g a0 a1 a2 s_at t_length t_bytes) (some (.int o)) := by
  refine std_i (own := RX5) (by decide +kernel) rfl (Nat.le_of_ble_eq_true rfl) ?_
  intro p e s m args below meth c Q X ret hP hS ls hl
  have hx := X.1
  have hb := X.2.1
  have hl : lv_has ls 1 [(0, .ref a0)] := hl
  have ret : ∀ {H : Heap} {locs : List Loc} {pc : Nat} {ls : Array Slot} {v : Int32} , some (v) = some o → WP g A (wScan g a0 a1 a2 s_at t_length t_bytes) H → va_S A s.heap H locs → decode cX5_here pc = .ok (.ireturn, 1) → W p l e rm_X5_here s m args below meth c H locs 0 0 Q (F0 m pc ls [.int v]) := by
    intro H locs pc ls v h hP hS hd
    cases h
    exact ret hP hS hd
  have b36 : ∀  (H : Heap) (locs : List Loc) (ls : Array Slot), f_X5_here_b36  s_at t_length t_bytes   = some o → WP g A (wScan g a0 a1 a2 s_at t_length t_bytes) H → va_S A s.heap H locs → lv_has ls 1 [] → W p l e rm_X5_here s m args below meth c H locs 0 0 Q (F0 m 36 ls []) := by
    intro   H locs ls h hP hS hl
    unfold f_X5_here_b36 at h
    refine lv_iconst (v := 0) hx hb dX5_here_36 rfl ?_
    exact ret h hP hS dX5_here_37
  unfold f_X5_here at h
  refine lv_aload_n hx hb dX5_here_0 rfl (lv_at hl 0 rfl) ?_
  refine gf_X5_13_Scan_0 X hP dX5_here_1 ?_
  refine lv_if_lt (tgt := 36) hx hb dX5_here_4 rfl (fun c4 => ?_) (fun c4 => ?_)
  · have h := br_p c4 h
    exact b36    _ _ _ h hP hS (lv_sub hl [] rfl)
  · have h := br_n c4 h
    refine lv_aload_n hx hb dX5_here_7 rfl (lv_at hl 0 rfl) ?_
    refine gf_X5_13_Scan_0 X hP dX5_here_8 ?_
    refine lv_aload_n hx hb dX5_here_11 rfl (lv_at hl 0 rfl) ?_
    refine gf_X5_7_Scan_0 X hP dX5_here_12 ?_
    refine gf_X5_17_Scan_1 X hP dX5_here_15 ?_
    refine lv_icmp_ge (tgt := 36) hx hb dX5_here_18 rfl (fun c18 => ?_) (fun c18 => ?_)
    · have h := br_p c18 h
      exact b36    _ _ _ h hP hS (lv_sub hl [] rfl)
    · have h := br_n c18 h
      refine lv_aload_n hx hb dX5_here_21 rfl (lv_at hl 0 rfl) ?_
      refine gf_X5_7_Scan_0 X hP dX5_here_22 ?_
      refine gf_X5_22_Scan_1 X hP dX5_here_25 ?_
      refine lv_aload_n hx hb dX5_here_28 rfl (lv_at hl 0 rfl) ?_
      refine gf_X5_13_Scan_0 X hP dX5_here_29 ?_
      obtain ⟨hi32, h⟩ := gv_of h
      refine al_Scan_2 X hP hi32 dX5_here_32 ?_
      refine lv_goto (tgt := 37) hx hb dX5_here_33 rfl ?_
      exact ret h hP hS dX5_here_37
abbrev rm_X5_skipBlanks : Room := { frames := 1, cells := 0, slots := 0, locals := 20 }
set_option maxRecDepth 100000 in
set_option maxHeartbeats 4000000 in
theorem c_X5_skipBlanks {g : gT} {l : Launch} {A : Nat → Prop} {a0 a1 a2 : Nat} {s_at : Int32} {t_length : Int32} {t_bytes : Nat → Int32}  {o : Int32} (h : f_X5_skipBlanks  s_at t_length t_bytes = some o) : Std g l yX5_skipBlanks (.code yX5_skipBlanks cX5_skipBlanks 1 none :: gw) rm_X5_skipBlanks A [.ref a0] (wScan g a0 a1 a2 s_at t_length t_bytes) (wScan g a0 a1 a2 o t_length t_bytes) none := by
  refine std_v (own := RX5) (by decide +kernel) rfl (Nat.le_of_ble_eq_true rfl) ?_
  intro p e s m args below meth c Q X ret hP hS ls hl
  have hx := X.1
  have hb := X.2.1
  have hl : lv_has ls 1 [(0, .ref a0)] := hl
  have ret : ∀ {H : Heap} {locs : List Loc} {pc : Nat} {ls : Array Slot} {s_at : Int32}, some (s_at) = some o → WP g A (wScan g a0 a1 a2 s_at t_length t_bytes) H → va_S A s.heap H locs → decode cX5_skipBlanks pc = .ok (.return_, 1) → W p l e rm_X5_skipBlanks s m args below meth c H locs 0 0 Q (F0 m pc ls []) := by
    intro H locs pc ls s_at h hP hS hd
    cases h
    exact ret hP hS hd
  have l0 : ∀ (n : Nat), ∀ (s_at : Int32) (H : Heap) (locs : List Loc) (ls : Array Slot), f_X5_skipBlanks_l0  t_length t_bytes  n s_at = some o → WP g A (wScan g a0 a1 a2 s_at t_length t_bytes) H → va_S A s.heap H locs → lv_has ls 1 [(0, .ref a0)] → W p l e rm_X5_skipBlanks s m args below meth c H locs 0 0 Q (F0 m 0 ls []) := by
    intro  n
    induction n with
    | zero =>
      intro s_at H locs ls h
      exact nz_of h
    | succ n ih =>
      intro s_at H locs ls h hP hS hl
      rw [f_X5_skipBlanks_l0] at h
      refine lv_aload_n hx hb dX5_skipBlanks_0 rfl (lv_at hl 0 rfl) ?_
      refine gf_X5_13_Scan_0 X hP dX5_skipBlanks_1 ?_
      refine lv_aload_n hx hb dX5_skipBlanks_4 rfl (lv_at hl 0 rfl) ?_
      refine gf_X5_7_Scan_0 X hP dX5_skipBlanks_5 ?_
      refine gf_X5_17_Scan_1 X hP dX5_skipBlanks_8 ?_
      refine lv_icmp_ge (tgt := 36) hx hb dX5_skipBlanks_11 rfl (fun c11 => ?_) (fun c11 => ?_)
      · have h := br_p c11 h
        exact ret h hP hS dX5_skipBlanks_36
      · have h := br_n c11 h
        refine lv_aload_n hx hb dX5_skipBlanks_14 rfl (lv_at hl 0 rfl) ?_
        obtain ⟨o1, hco1, h⟩ := bd_of h
        refine kV (rest := []) X dX5_skipBlanks_15 wd_2_166 mw_X5_here wd_2_168 wp_1_12 hP (k0 := 0) rfl rfl rfl hS (fun _ z => z) (c_X5_here hco1) rfl hl.1 rfl (Nat.le_of_ble_eq_true rfl) rfl rfl ⟨Nat.le_of_ble_eq_true rfl, Nat.le_of_ble_eq_true rfl⟩ (fun H locs hP _ _ hS => ?_)
        refine W.eq (g2 := F0 m 18 ls [.int o1]) rfl ?_
        refine lv_bipush (v := 32) hx hb dX5_skipBlanks_18 rfl ?_
        refine lv_icmp_ne (tgt := 36) hx hb dX5_skipBlanks_20 rfl (fun c20 => ?_) (fun c20 => ?_)
        · have h := br_n c20 h
          exact ret h hP hS dX5_skipBlanks_36
        · have h := br_p c20 h
          refine lv_aload_n hx hb dX5_skipBlanks_23 rfl (lv_at hl 0 rfl) ?_
          refine lv_dup hx hb dX5_skipBlanks_24 rfl ?_
          refine gf_X5_13_Scan_0 X hP dX5_skipBlanks_25 ?_
          refine lv_iconst (v := 1) hx hb dX5_skipBlanks_28 rfl ?_
          refine lv_iadd hx hb dX5_skipBlanks_29 ?_
          refine lv_topi (fun v2 ev2 => ?_)
          have h := lt_at ev2 h
          refine pf_X5_13_Scan_0 (v0 := v2) X hP hS dX5_skipBlanks_30 (fun H locs hP hS => ?_)
          refine lv_goto (tgt := 0) hx hb dX5_skipBlanks_33 rfl ?_
          exact ih v2 _ _ _ h hP hS (lv_sub hl [0] rfl)
  unfold f_X5_skipBlanks at h
  exact l0  FU s_at _ _ _ h hP hS (lv_sub hl [0] rfl)
