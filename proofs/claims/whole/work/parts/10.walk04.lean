abbrev rm_X8_rootOf : Room := { frames := 0, cells := 0, slots := 0, locals := 0 }
set_option maxRecDepth 100000 in
set_option maxHeartbeats 4000000 in
theorem c_X8_rootOf {g : gT} {l : Launch} {A : Nat → Prop} {w : va_W} {p0 : Int64} {o : Int64} (h : f_X8_rootOf p0  = some o) : Std g l yX8_rootOf (.code yX8_rootOf cX8_rootOf 7 (some .long) :: gw) rm_X8_rootOf A [.long p0] w w (some (.long o)) := by
  refine std_l (own := RX8) (by decide +kernel) rfl (Nat.le_of_ble_eq_true rfl) ?_
  intro p e s m args below meth c Q X ret H locs hP hS ls hl
  have hx := X.1
  have hb := X.2.1
  have hl : lv_has ls 7 [(0, .long p0)] := hl
  have ret : ∀ {H : Heap} {locs : List Loc} {pc : Nat} {ls : Array Slot} {v : Int64} , some (v) = some o → WP g A w H → va_S A s.heap H locs → decode cX8_rootOf pc = .ok (.lreturn, 1) → W p l e rm_X8_rootOf s m args below meth c H locs 0 0 Q (F0 m pc ls [.long v]) := by
    intro H locs pc ls v h hP hS hd
    cases h
    exact ret hP hS hd
  have l6 : ∀ (n : Nat), ∀ (x0 : Int64) (x2 : Int64) (x4 : Int32) (H : Heap) (locs : List Loc) (ls : Array Slot), f_X8_rootOf_l6    n x0 x2 x4 = some o → WP g A w H → va_S A s.heap H locs → lv_has ls 7 [(0, .long x0), (2, .long x2), (4, .int x4)] → W p l e rm_X8_rootOf s m args below meth c H locs 0 0 Q (F0 m 6 ls []) := by
    intro  n
    induction n with
    | zero =>
      intro x0 x2 x4 H locs ls h
      exact nz_of h
    | succ n ih =>
      intro x0 x2 x4 H locs ls h hP hS hl
      rw [f_X8_rootOf_l6] at h
      refine lv_iload hx hb dX8_rootOf_6 (lv_at hl 2 rfl) ?_
      refine lv_if_lt (tgt := 38) hx hb dX8_rootOf_8 rfl (fun c8 => ?_) (fun c8 => ?_)
      · have h := br_p c8 h
        refine lv_lload_n hx hb dX8_rootOf_38 rfl (lv_at hl 1 rfl) ?_
        exact ret h hP hS dX8_rootOf_39
      · have h := br_n c8 h
        refine lv_lload_n hx hb dX8_rootOf_11 rfl (lv_at hl 1 rfl) ?_
        refine lv_lconst (v := 1) hx hb dX8_rootOf_12 rfl ?_
        refine lv_iload hx hb dX8_rootOf_13 (lv_at hl 2 rfl) ?_
        refine lv_lshl hx hb dX8_rootOf_15 rfl ?_
        refine lv_lor hx hb dX8_rootOf_16 ?_
        refine lv_topl (fun v1 ev1 => ?_)
        have h := lt_at ev1 h
        refine lv_lstore (lv' := [(5, .long v1), (0, .long x0), (2, .long x2), (4, .int x4)]) hx hb dX8_rootOf_17 hl (by decide) rfl (fun ls hl => ?_)
        refine lv_lload hx hb dX8_rootOf_19 (lv_at hl 0 rfl) ?_
        refine lv_lload hx hb dX8_rootOf_21 (lv_at hl 0 rfl) ?_
        refine lv_lmul hx hb dX8_rootOf_23 ?_
        refine lv_lload_n hx hb dX8_rootOf_24 rfl (lv_at hl 1 rfl) ?_
        refine jx1 h (P := fun (v2 : Int64) => ∀ ls : Array Slot, lv_has ls 7 [(0, .long x0), (2, .long v2), (4, .int x4)] → W p l e rm_X8_rootOf s m args below meth c H locs 0 0 Q (F0 m 32 ls [])) ?_ ?_
        · intro v2 h ls hl
          obtain ⟨v3, ev3⟩ : ∃ z : Int32, z = (x4 + (-1)) := ⟨_, rfl⟩
          have h := lt_at ev3 h
          refine lv_iinc (v := v3) (lv' := [(4, .int v3), (0, .long x0), (2, .long v2)]) hx hb dX8_rootOf_32 hl (k := 2) rfl (by rw [ev3]; rfl) (by decide) rfl (fun ls hl => ?_)
          refine lv_goto (tgt := 6) hx hb dX8_rootOf_35 rfl ?_
          exact ih x0 v2 v3 _ _ _ h hP hS (lv_sub hl [1, 2, 0] rfl)
        · intro J h
          refine rl_gt (tgt := 32) hx hb dX8_rootOf_25 dX8_rootOf_26 rfl (fun c25 => ?_) (fun c25 => ?_)
          · exact J _ (lt_ip c25 h) ls (lv_sub hl [1, 2, 3] rfl)
          · refine lv_lload hx hb dX8_rootOf_29 (lv_at hl 0 rfl) ?_
            refine lv_lstore_n (lv' := [(2, .long v1), (5, .long v1), (0, .long x0), (4, .int x4)]) hx hb dX8_rootOf_31 rfl hl (by decide) rfl (fun ls hl => ?_)
            exact J _ (lt_in c25 h) ls (lv_sub hl [2, 0, 3] rfl)
  unfold f_X8_rootOf at h
  refine lv_lconst (v := 0) hx hb dX8_rootOf_0 rfl ?_
  refine lv_lstore_n (lv' := [(2, .long (0 : Int64)), (0, .long p0)]) hx hb dX8_rootOf_1 rfl hl (by decide) rfl (fun ls hl => ?_)
  refine lv_bipush (v := 30) hx hb dX8_rootOf_2 rfl ?_
  refine lv_istore (lv' := [(4, .int 30), (2, .long (0 : Int64)), (0, .long p0)]) hx hb dX8_rootOf_4 hl (by decide) rfl (fun ls hl => ?_)
  exact l6  FU p0 (0 : Int64) (30 : Int32) _ _ _ h hP hS (lv_sub hl [2, 1, 0] rfl)
abbrev rm_X8_fillDigits : Room := { frames := 0, cells := 0, slots := 0, locals := 0 }
set_option maxRecDepth 100000 in
set_option maxHeartbeats 4000000 in
theorem c_X8_fillDigits {g : gT} {l : Launch} {A : Nat → Prop} {a0 a1 a2 a3 a4 a5 : Nat} {u_width : Int32} {u_guard : Int32} {u_bits : Int32} {u_stages : Int32} {u_places : Int32} {u_near : Bool} {u_quarter : Int64} {u_eighth : Int64} {u_ln : Int64} {u_shifts : Nat → Int32} {u_angles : Nat → Int64} {u_gains : Nat → Int64} {u_undos : Nat → Int64} {u_digits : Nat → Int32} {p0 : Int32} {o : (Nat → Int32)} (h : f_X8_fillDigits p0 u_undos u_digits = some o) : Std g l yX8_fillDigits (.code yX8_fillDigits cX8_fillDigits 6 none :: gw) rm_X8_fillDigits A [.ref a0, .int p0] (wUnit g a0 a1 a2 a3 a4 a5 u_width u_guard u_bits u_stages u_places u_near u_quarter u_eighth u_ln u_shifts u_angles u_gains u_undos u_digits) (wUnit g a0 a1 a2 a3 a4 a5 u_width u_guard u_bits u_stages u_places u_near u_quarter u_eighth u_ln u_shifts u_angles u_gains u_undos o) none := by
  refine std_v (own := RX8) (by decide +kernel) rfl (Nat.le_of_ble_eq_true rfl) ?_
  intro p e s m args below meth c Q X ret H locs hP hS ls hl
  have hx := X.1
  have hb := X.2.1
  have hl : lv_has ls 6 [(0, .ref a0), (1, .int p0)] := hl
  have ret : ∀ {H : Heap} {locs : List Loc} {pc : Nat} {ls : Array Slot} {u_digits : Nat → Int32}, some (u_digits) = some o → WP g A (wUnit g a0 a1 a2 a3 a4 a5 u_width u_guard u_bits u_stages u_places u_near u_quarter u_eighth u_ln u_shifts u_angles u_gains u_undos u_digits) H → va_S A s.heap H locs → decode cX8_fillDigits pc = .ok (.return_, 1) → W p l e rm_X8_fillDigits s m args below meth c H locs 0 0 Q (F0 m pc ls []) := by
    intro H locs pc ls u_digits h hP hS hd
    cases h
    exact ret hP hS hd
  have l10 : ∀ (n : Nat), ∀ (x1 : Int32) (x2 : Int64) (x4 : Int32) (u_digits : Nat → Int32) (H : Heap) (locs : List Loc) (ls : Array Slot), f_X8_fillDigits_l10  u_undos  n x1 x2 x4 u_digits = some o → WP g A (wUnit g a0 a1 a2 a3 a4 a5 u_width u_guard u_bits u_stages u_places u_near u_quarter u_eighth u_ln u_shifts u_angles u_gains u_undos u_digits) H → va_S A s.heap H locs → lv_has ls 6 [(0, .ref a0), (1, .int x1), (2, .long x2), (4, .int x4)] → W p l e rm_X8_fillDigits s m args below meth c H locs 0 0 Q (F0 m 10 ls []) := by
    intro  n
    induction n with
    | zero =>
      intro x1 x2 x4 u_digits H locs ls h
      exact nz_of h
    | succ n ih =>
      intro x1 x2 x4 u_digits H locs ls h hP hS hl
      rw [f_X8_fillDigits_l10] at h
      refine lv_iload hx hb dX8_fillDigits_10 (lv_at hl 3 rfl) ?_
      refine lv_bipush (v := 32) hx hb dX8_fillDigits_12 rfl ?_
      refine lv_icmp_ge (tgt := 67) hx hb dX8_fillDigits_14 rfl (fun c14 => ?_) (fun c14 => ?_)
      · have h := br_p c14 h
        exact ret h hP hS dX8_fillDigits_67
      · have h := br_n c14 h
        refine lv_lload_n hx hb dX8_fillDigits_17 rfl (lv_at hl 2 rfl) ?_
        refine lv_lconst (v := 1) hx hb dX8_fillDigits_18 rfl ?_
        refine lv_land hx hb dX8_fillDigits_19 ?_
        refine lv_lconst (v := 0) hx hb dX8_fillDigits_20 rfl ?_
        refine jx1 h (P := fun (v2 : Int32) => ∀ ls : Array Slot, lv_has ls 6 [(0, .ref a0), (1, .int x1), (2, .long x2), (4, .int x4)] → W p l e rm_X8_fillDigits s m args below meth c H locs 0 0 Q (F0 m 37 ls [.int v2])) ?_ ?_
        · intro v2 h ls hl
          refine lv_istore (lv' := [(5, .int v2), (0, .ref a0), (1, .int x1), (2, .long x2), (4, .int x4)]) hx hb dX8_fillDigits_37 hl (by decide) rfl (fun ls hl => ?_)
          refine lv_aload_n hx hb dX8_fillDigits_39 rfl (lv_at hl 1 rfl) ?_
          refine gf_X8_25_Unit_0 X hP dX8_fillDigits_40 ?_
          refine lv_iload_n hx hb dX8_fillDigits_43 rfl (lv_at hl 2 rfl) ?_
          refine lv_bipush (v := 32) hx hb dX8_fillDigits_44 rfl ?_
          refine lv_imul hx hb dX8_fillDigits_46 ?_
          refine lv_iload hx hb dX8_fillDigits_47 (lv_at hl 4 rfl) ?_
          refine lv_iadd hx hb dX8_fillDigits_49 ?_
          refine lv_iload hx hb dX8_fillDigits_50 (lv_at hl 0 rfl) ?_
          obtain ⟨hi52, h⟩ := gv_of h
          refine as_Unit_5 (v0 := v2) X hP hS hi52 dX8_fillDigits_52 (fun H locs hP hS => ?_)
          refine lv_lload_n hx hb dX8_fillDigits_53 rfl (lv_at hl 3 rfl) ?_
          refine lv_iload hx hb dX8_fillDigits_54 (lv_at hl 0 rfl) ?_
          refine lv_i2l hx hb dX8_fillDigits_56 rfl ?_
          refine lv_lsub hx hb dX8_fillDigits_57 ?_
          refine lv_iconst (v := 1) hx hb dX8_fillDigits_58 rfl ?_
          refine lv_lshr hx hb dX8_fillDigits_59 rfl ?_
          refine lv_topl (fun v3 ev3 => ?_)
          have h := lt_at ev3 h
          refine lv_lstore_n (lv' := [(2, .long v3), (5, .int v2), (0, .ref a0), (1, .int x1), (4, .int x4)]) hx hb dX8_fillDigits_60 rfl hl (by decide) rfl (fun ls hl => ?_)
          obtain ⟨v4, ev4⟩ : ∃ z : Int32, z = (x4 + 1) := ⟨_, rfl⟩
          have h := lt_at ev4 h
          refine lv_iinc (v := v4) (lv' := [(4, .int v4), (2, .long v3), (5, .int v2), (0, .ref a0), (1, .int x1)]) hx hb dX8_fillDigits_61 hl (k := 4) rfl (by rw [ev4]; rfl) (by decide) rfl (fun ls hl => ?_)
          refine lv_goto (tgt := 10) hx hb dX8_fillDigits_64 rfl ?_
          exact ih x1 v3 v4 (upd u_digits (((x1 * (32 : Int32)) + x4)).toNatClampNeg v2) _ _ _ h hP hS (lv_sub hl [3, 4, 1, 0] rfl)
        · intro J h
          refine rl_ne (tgt := 29) hx hb dX8_fillDigits_21 dX8_fillDigits_22 rfl (fun c21 => ?_) (fun c21 => ?_)
          · refine lv_iconst (v := 2) hx hb dX8_fillDigits_29 rfl ?_
            refine lv_lload_n hx hb dX8_fillDigits_30 rfl (lv_at hl 2 rfl) ?_
            refine lv_ldc2 (v := 3) hx hb X.2.2.2.1 (X.2.2.2.2.1 _ wd_2_40) dX8_fillDigits_31 ?_
            refine lv_land hx hb dX8_fillDigits_34 ?_
            refine lv_l2i hx hb dX8_fillDigits_35 rfl ?_
            refine lv_isub hx hb dX8_fillDigits_36 ?_
            exact J _ (lt_in c21 h) ls (lv_sub hl [0, 1, 2, 3] rfl)
          · refine lv_iconst (v := 0) hx hb dX8_fillDigits_25 rfl ?_
            refine lv_goto (tgt := 37) hx hb dX8_fillDigits_26 rfl ?_
            exact J _ (lt_ip c21 h) ls (lv_sub hl [0, 1, 2, 3] rfl)
  unfold f_X8_fillDigits at h
  refine lv_aload_n hx hb dX8_fillDigits_0 rfl (lv_at hl 0 rfl) ?_
  refine gf_X8_22_Unit_0 X hP dX8_fillDigits_1 ?_
  refine lv_iload_n hx hb dX8_fillDigits_4 rfl (lv_at hl 1 rfl) ?_
  obtain ⟨hi5, h⟩ := gv_of h
  refine al_Unit_4 X hP hi5 dX8_fillDigits_5 ?_
  refine lv_topl (fun v1 ev1 => ?_)
  have h := lt_at ev1 h
  refine lv_lstore_n (lv' := [(2, .long v1), (0, .ref a0), (1, .int p0)]) hx hb dX8_fillDigits_6 rfl hl (by decide) rfl (fun ls hl => ?_)
  refine lv_iconst (v := 0) hx hb dX8_fillDigits_7 rfl ?_
  refine lv_istore (lv' := [(4, .int 0), (2, .long v1), (0, .ref a0), (1, .int p0)]) hx hb dX8_fillDigits_8 hl (by decide) rfl (fun ls hl => ?_)
  exact l10  FU p0 v1 (0 : Int32) u_digits _ _ _ h hP hS (lv_sub hl [2, 3, 1, 0] rfl)
abbrev rm_X8_build : Room := { frames := 2, cells := 0, slots := 0, locals := 49 }
set_option maxRecDepth 100000 in
set_option maxHeartbeats 4000000 in
theorem c_X8_build {g : gT} {l : Launch} {A : Nat → Prop} {a0 a1 a2 a3 a4 a5 : Nat} {u_width : Int32} {u_guard : Int32} {u_bits : Int32} {u_stages : Int32} {u_places : Int32} {u_near : Bool} {u_quarter : Int64} {u_eighth : Int64} {u_ln : Int64} {u_shifts : Nat → Int32} {u_angles : Nat → Int64} {u_gains : Nat → Int64} {u_undos : Nat → Int64} {u_digits : Nat → Int32} {p0 : Int32} {p1 : Int32} {p2 : Int32} {p3 : Int32} {p4 : Bool} {o : Int32 × Int32 × Int32 × Int32 × Int32 × Bool × Int64 × Int64 × Int64 × (Nat → Int32) × (Nat → Int64) × (Nat → Int64) × (Nat → Int64) × (Nat → Int32)} (h : f_X8_build p0 p1 p2 p3 p4 u_width u_guard u_bits u_stages u_places u_near u_quarter u_eighth u_ln u_shifts u_angles u_gains u_undos u_digits = some o) : Std g l yX8_build (.code yX8_build cX8_build 7 none :: gw) rm_X8_build A [.ref a0, .int p0, .int p1, .int p2, .int p3, .int (bI p4)] (wUnit g a0 a1 a2 a3 a4 a5 u_width u_guard u_bits u_stages u_places u_near u_quarter u_eighth u_ln u_shifts u_angles u_gains u_undos u_digits) (wUnit g a0 a1 a2 a3 a4 a5 o.1 o.2.1 o.2.2.1 o.2.2.2.1 o.2.2.2.2.1 o.2.2.2.2.2.1 o.2.2.2.2.2.2.1 o.2.2.2.2.2.2.2.1 o.2.2.2.2.2.2.2.2.1 o.2.2.2.2.2.2.2.2.2.1 o.2.2.2.2.2.2.2.2.2.2.1 o.2.2.2.2.2.2.2.2.2.2.2.1 o.2.2.2.2.2.2.2.2.2.2.2.2.1 o.2.2.2.2.2.2.2.2.2.2.2.2.2) none := by
  refine std_v (own := RX8) (by decide +kernel) rfl (Nat.le_of_ble_eq_true rfl) ?_
  intro p e s m args below meth c Q X ret H locs hP hS ls hl
  have hx := X.1
  have hb := X.2.1
  have hl : lv_has ls 7 [(0, .ref a0), (1, .int p0), (2, .int p1), (3, .int p2), (4, .int p3), (5, .int (bI p4))] := hl
  have ret : ∀ {H : Heap} {locs : List Loc} {pc : Nat} {ls : Array Slot} {u_width : Int32} {u_guard : Int32} {u_bits : Int32} {u_stages : Int32} {u_places : Int32} {u_near : Bool} {u_quarter : Int64} {u_eighth : Int64} {u_ln : Int64} {u_shifts : Nat → Int32} {u_angles : Nat → Int64} {u_gains : Nat → Int64} {u_undos : Nat → Int64} {u_digits : Nat → Int32}, some (u_width, u_guard, u_bits, u_stages, u_places, u_near, u_quarter, u_eighth, u_ln, u_shifts, u_angles, u_gains, u_undos, u_digits) = some o → WP g A (wUnit g a0 a1 a2 a3 a4 a5 u_width u_guard u_bits u_stages u_places u_near u_quarter u_eighth u_ln u_shifts u_angles u_gains u_undos u_digits) H → va_S A s.heap H locs → decode cX8_build pc = .ok (.return_, 1) → W p l e rm_X8_build s m args below meth c H locs 0 0 Q (F0 m pc ls []) := by
    intro H locs pc ls u_width u_guard u_bits u_stages u_places u_near u_quarter u_eighth u_ln u_shifts u_angles u_gains u_undos u_digits h hP hS hd
    cases h
    exact ret hP hS hd
  have b159 : ∀ (k77 : Int32 → Int32 → Int32 → Int32 → Int32 → Int32 → Bool → Int64 → Int64 → Int64 → (Nat → Int32) → (Nat → Int64) → (Nat → Int64) → (Nat → Int64) → (Nat → Int32) → Option (Int32 × Int32 × Int32 × Int32 × Int32 × Bool × Int64 × Int64 × Int64 × (Nat → Int32) × (Nat → Int64) × (Nat → Int64) × (Nat → Int64) × (Nat → Int32))) (hk77 : ∀ (x6 : Int32) (u_width : Int32) (u_guard : Int32) (u_bits : Int32) (u_stages : Int32) (u_places : Int32) (u_near : Bool) (u_quarter : Int64) (u_eighth : Int64) (u_ln : Int64) (u_shifts : Nat → Int32) (u_angles : Nat → Int64) (u_gains : Nat → Int64) (u_undos : Nat → Int64) (u_digits : Nat → Int32) (H : Heap) (locs : List Loc) (ls : Array Slot), k77 x6 u_width u_guard u_bits u_stages u_places u_near u_quarter u_eighth u_ln u_shifts u_angles u_gains u_undos u_digits = some o → WP g A (wUnit g a0 a1 a2 a3 a4 a5 u_width u_guard u_bits u_stages u_places u_near u_quarter u_eighth u_ln u_shifts u_angles u_gains u_undos u_digits) H → va_S A s.heap H locs → lv_has ls 7 [(0, .ref a0), (6, .int x6)] → W p l e rm_X8_build s m args below meth c H locs 0 0 Q (F0 m 77 ls [])) , ∀ (x6 : Int32) (t1 : Int32) (t2 : Int64) (u_width : Int32) (u_guard : Int32) (u_bits : Int32) (u_stages : Int32) (u_places : Int32) (u_near : Bool) (u_quarter : Int64) (u_eighth : Int64) (u_ln : Int64) (u_shifts : Nat → Int32) (u_angles : Nat → Int64) (u_gains : Nat → Int64) (u_undos : Nat → Int64) (u_digits : Nat → Int32) (H : Heap) (locs : List Loc) (ls : Array Slot), f_X8_build_b159   k77 x6 t1 t2 u_width u_guard u_bits u_stages u_places u_near u_quarter u_eighth u_ln u_shifts u_angles u_gains u_undos u_digits = some o → WP g A (wUnit g a0 a1 a2 a3 a4 a5 u_width u_guard u_bits u_stages u_places u_near u_quarter u_eighth u_ln u_shifts u_angles u_gains u_undos u_digits) H → va_S A s.heap H locs → lv_has ls 7 [(0, .ref a0), (6, .int x6)] → W p l e rm_X8_build s m args below meth c H locs 0 0 Q (F0 m 159 ls [.long t2, .int t1, .ref a4]) := by
    intro k77 hk77 x6 t1 t2 u_width u_guard u_bits u_stages u_places u_near u_quarter u_eighth u_ln u_shifts u_angles u_gains u_undos u_digits H locs ls h hP hS hl
    unfold f_X8_build_b159 at h
    obtain ⟨hi159, h⟩ := gv_of h
    refine as_Unit_4 (v0 := t2) X hP hS hi159 dX8_build_159 (fun H locs hP hS => ?_)
    refine lv_aload_n hx hb dX8_build_160 rfl (lv_at hl 0 rfl) ?_
    refine lv_iload hx hb dX8_build_161 (lv_at hl 1 rfl) ?_
    obtain ⟨o11, hco11, h⟩ := bd_of h
    refine kV (rest := []) X dX8_build_163 wd_2_36 mw_X8_fillDigits wd_2_38 wp_1_6 hP (k0 := 0) rfl rfl rfl hS (fun _ z => z) (c_X8_fillDigits hco11) rfl hl.1 rfl (Nat.le_of_ble_eq_true rfl) rfl rfl ⟨Nat.le_of_ble_eq_true rfl, Nat.le_of_ble_eq_true rfl⟩ (fun H locs hP _ _ hS => ?_)
    refine W.eq (g2 := F0 m 166 ls []) rfl ?_
    obtain ⟨v12, ev12⟩ : ∃ z : Int32, z = (x6 + 1) := ⟨_, rfl⟩
    have h := lt_at ev12 h
    refine lv_iinc (v := v12) (lv' := [(6, .int v12), (0, .ref a0)]) hx hb dX8_build_166 hl (k := 1) rfl (by rw [ev12]; rfl) (by decide) rfl (fun ls hl => ?_)
    refine lv_goto (tgt := 77) hx hb dX8_build_169 rfl ?_
    exact hk77 v12 u_width u_guard u_bits u_stages u_places u_near u_quarter u_eighth u_ln u_shifts u_angles u_gains (vp_updL u_undos (t1).toNatClampNeg t2) o11 _ _ _ h hP hS (lv_sub hl [1, 0] rfl)
  have l77 : ∀ (n : Nat), ∀ (x6 : Int32) (u_width : Int32) (u_guard : Int32) (u_bits : Int32) (u_stages : Int32) (u_places : Int32) (u_near : Bool) (u_quarter : Int64) (u_eighth : Int64) (u_ln : Int64) (u_shifts : Nat → Int32) (u_angles : Nat → Int64) (u_gains : Nat → Int64) (u_undos : Nat → Int64) (u_digits : Nat → Int32) (H : Heap) (locs : List Loc) (ls : Array Slot), f_X8_build_l77    n x6 u_width u_guard u_bits u_stages u_places u_near u_quarter u_eighth u_ln u_shifts u_angles u_gains u_undos u_digits = some o → WP g A (wUnit g a0 a1 a2 a3 a4 a5 u_width u_guard u_bits u_stages u_places u_near u_quarter u_eighth u_ln u_shifts u_angles u_gains u_undos u_digits) H → va_S A s.heap H locs → lv_has ls 7 [(0, .ref a0), (6, .int x6)] → W p l e rm_X8_build s m args below meth c H locs 0 0 Q (F0 m 77 ls []) := by
    intro  n
    induction n with
    | zero =>
      intro x6 u_width u_guard u_bits u_stages u_places u_near u_quarter u_eighth u_ln u_shifts u_angles u_gains u_undos u_digits H locs ls h
      exact nz_of h
    | succ n ih =>
      intro x6 u_width u_guard u_bits u_stages u_places u_near u_quarter u_eighth u_ln u_shifts u_angles u_gains u_undos u_digits H locs ls h hP hS hl
      rw [f_X8_build_l77] at h
      refine lv_iload hx hb dX8_build_77 (lv_at hl 1 rfl) ?_
      refine lv_iconst (v := 3) hx hb dX8_build_79 rfl ?_
      refine lv_icmp_ge (tgt := 172) hx hb dX8_build_80 rfl (fun c80 => ?_) (fun c80 => ?_)
      · have h := br_p c80 h
        exact ret h hP hS dX8_build_172
      · have h := br_n c80 h
        refine lv_aload_n hx hb dX8_build_83 rfl (lv_at hl 0 rfl) ?_
        refine lv_iload hx hb dX8_build_84 (lv_at hl 1 rfl) ?_
        obtain ⟨o7, hco7, h⟩ := bd_of h
        refine kV (rest := []) X dX8_build_86 wd_2_13 mw_X8_fillShifts wd_2_15 wp_1_2 hP (k0 := 0) rfl rfl rfl hS (fun _ z => z) (c_X8_fillShifts hco7) rfl hl.1 rfl (Nat.le_of_ble_eq_true rfl) rfl rfl ⟨Nat.le_of_ble_eq_true rfl, Nat.le_of_ble_eq_true rfl⟩ (fun H locs hP _ _ hS => ?_)
        refine W.eq (g2 := F0 m 89 ls []) rfl ?_
        refine lv_aload_n hx hb dX8_build_89 rfl (lv_at hl 0 rfl) ?_
        refine lv_iload hx hb dX8_build_90 (lv_at hl 1 rfl) ?_
        obtain ⟨o8, hco8, h⟩ := bd_of h
        refine kV (rest := []) X dX8_build_92 wd_2_17 mw_X8_fillAngles wd_2_19 wp_1_3 hP (k0 := 0) rfl rfl rfl hS (fun _ z => z) (c_X8_fillAngles hco8) rfl hl.1 rfl (Nat.le_of_ble_eq_true rfl) rfl rfl ⟨Nat.le_of_ble_eq_true rfl, Nat.le_of_ble_eq_true rfl⟩ (fun H locs hP _ _ hS => ?_)
        refine W.eq (g2 := F0 m 95 ls []) rfl ?_
        refine lv_aload_n hx hb dX8_build_95 rfl (lv_at hl 0 rfl) ?_
        refine gf_X8_19_Unit_0 X hP dX8_build_96 ?_
        refine lv_iload hx hb dX8_build_99 (lv_at hl 1 rfl) ?_
        refine lv_aload_n hx hb dX8_build_101 rfl (lv_at hl 0 rfl) ?_
        refine lv_iload hx hb dX8_build_102 (lv_at hl 1 rfl) ?_
        obtain ⟨o9, hco9, h⟩ := bd_of h
        refine kV (rest := [.int x6, .ref a3]) X dX8_build_104 wd_2_28 mw_X8_square wd_2_30 wp_1_5 hP (k0 := 0) rfl rfl rfl hS (fun _ z => z) (c_X8_square hco9) rfl hl.1 rfl (Nat.le_of_ble_eq_true rfl) rfl rfl ⟨Nat.le_of_ble_eq_true rfl, Nat.le_of_ble_eq_true rfl⟩ (fun H locs hP _ _ hS => ?_)
        refine W.eq (g2 := F0 m 107 ls [.long o9, .int x6, .ref a3]) rfl ?_
        refine lv_bipush (v := 54) hx hb dX8_build_107 rfl ?_
        refine lv_iconst (v := 2) hx hb dX8_build_109 rfl ?_
        refine lv_aload_n hx hb dX8_build_110 rfl (lv_at hl 0 rfl) ?_
        refine gf_X8_45_Unit_0 X hP dX8_build_111 ?_
        refine lv_imul hx hb dX8_build_114 ?_
        refine lv_isub hx hb dX8_build_115 ?_
        refine lv_lshr hx hb dX8_build_116 rfl ?_
        obtain ⟨o10, hco10, h⟩ := bd_of h
        refine kS (rest := [.int x6, .ref a3]) X dX8_build_117 wd_2_33 mw_X8_rootOf wd_2_34 hP hS (fun _ z => z) (c_X8_rootOf hco10) rfl hl.1 rfl (Nat.le_of_ble_eq_true rfl) rfl rfl ⟨Nat.le_of_ble_eq_true rfl, Nat.le_of_ble_eq_true rfl⟩ (fun H locs hP _ _ hS => ?_)
        refine W.eq (g2 := F0 m 120 ls [.long o10, .int x6, .ref a3]) rfl ?_
        obtain ⟨hi120, h⟩ := gv_of h
        refine as_Unit_3 (v0 := o10) X hP hS hi120 dX8_build_120 (fun H locs hP hS => ?_)
        refine lv_aload_n hx hb dX8_build_121 rfl (lv_at hl 0 rfl) ?_
        refine gf_X8_22_Unit_0 X hP dX8_build_122 ?_
        refine lv_iload hx hb dX8_build_125 (lv_at hl 1 rfl) ?_
        refine lv_aload_n hx hb dX8_build_127 rfl (lv_at hl 0 rfl) ?_
        refine gf_X8_19_Unit_0 X hP dX8_build_128 ?_
        refine lv_iload hx hb dX8_build_131 (lv_at hl 1 rfl) ?_
        obtain ⟨hi133, h⟩ := gv_of h
        refine al_Unit_3 X hP hi133 dX8_build_133 ?_
        refine lv_lconst (v := 0) hx hb dX8_build_134 rfl ?_
        refine rl_le (tgt := 158) hx hb dX8_build_135 dX8_build_136 rfl (fun c135 => ?_) (fun c135 => ?_)
        · have h := br_p c135 h
          refine lv_lconst (v := 0) hx hb dX8_build_158 rfl ?_
          exact b159 (f_X8_build_l77    n) ih  x6 x6 (0 : Int64) u_width u_guard u_bits u_stages u_places u_near u_quarter u_eighth u_ln o7 o8 (vp_updL u_gains (x6).toNatClampNeg o10) u_undos u_digits _ _ _ h hP hS (lv_sub hl [0, 1] rfl)
        · have h := br_n c135 h
          refine lv_lconst (v := 1) hx hb dX8_build_139 rfl ?_
          refine lv_iconst (v := 2) hx hb dX8_build_140 rfl ?_
          refine lv_aload_n hx hb dX8_build_141 rfl (lv_at hl 0 rfl) ?_
          refine gf_X8_45_Unit_0 X hP dX8_build_142 ?_
          refine lv_imul hx hb dX8_build_145 ?_
          refine lv_lshl hx hb dX8_build_146 rfl ?_
          refine lv_aload_n hx hb dX8_build_147 rfl (lv_at hl 0 rfl) ?_
          refine gf_X8_19_Unit_0 X hP dX8_build_148 ?_
          refine lv_iload hx hb dX8_build_151 (lv_at hl 1 rfl) ?_
          obtain ⟨hi153, h⟩ := gv_of h
          refine al_Unit_3 X hP hi153 dX8_build_153 ?_
          obtain ⟨cz154, h⟩ := gz_of h
          refine lv_ldiv hx hb dX8_build_154 cz154 ?_
          refine lv_goto (tgt := 159) hx hb dX8_build_155 rfl ?_
          exact b159 (f_X8_build_l77    n) ih  x6 x6 (((1 : Int64) <<< (((2 : Int32) * u_bits).toInt64 &&& 63)) / ((vp_updL u_gains (x6).toNatClampNeg o10) (x6).toNatClampNeg)) u_width u_guard u_bits u_stages u_places u_near u_quarter u_eighth u_ln o7 o8 (vp_updL u_gains (x6).toNatClampNeg o10) u_undos u_digits _ _ _ h hP hS (lv_sub hl [0, 1] rfl)
  unfold f_X8_build at h
  refine lv_aload_n hx hb dX8_build_0 rfl (lv_at hl 0 rfl) ?_
  refine lv_iload_n hx hb dX8_build_1 rfl (lv_at hl 1 rfl) ?_
  refine pf_X8_28_Unit_0 (v0 := p0) X hP hS dX8_build_2 (fun H locs hP hS => ?_)
  refine lv_aload_n hx hb dX8_build_5 rfl (lv_at hl 0 rfl) ?_
  refine lv_iload_n hx hb dX8_build_6 rfl (lv_at hl 2 rfl) ?_
  refine pf_X8_32_Unit_0 (v0 := p1) X hP hS dX8_build_7 (fun H locs hP hS => ?_)
  refine lv_aload_n hx hb dX8_build_10 rfl (lv_at hl 0 rfl) ?_
  refine lv_iload_n hx hb dX8_build_11 rfl (lv_at hl 3 rfl) ?_
  refine pf_X8_35_Unit_0 (v0 := p2) X hP hS dX8_build_12 (fun H locs hP hS => ?_)
  refine lv_aload_n hx hb dX8_build_15 rfl (lv_at hl 0 rfl) ?_
  refine lv_iload hx hb dX8_build_16 (lv_at hl 4 rfl) ?_
  refine pf_X8_38_Unit_0 (v0 := p3) X hP hS dX8_build_18 (fun H locs hP hS => ?_)
  refine lv_aload_n hx hb dX8_build_21 rfl (lv_at hl 0 rfl) ?_
  refine lv_iload hx hb dX8_build_22 (lv_at hl 5 rfl) ?_
  refine pf_X8_41_Unit_0 (v0 := p4) X hP hS dX8_build_24 (fun H locs hP hS => ?_)
  refine lv_aload_n hx hb dX8_build_27 rfl (lv_at hl 0 rfl) ?_
  refine lv_iload_n hx hb dX8_build_28 rfl (lv_at hl 1 rfl) ?_
  refine lv_iload_n hx hb dX8_build_29 rfl (lv_at hl 2 rfl) ?_
  refine lv_iadd hx hb dX8_build_30 ?_
  refine lv_topi (fun v1 ev1 => ?_)
  have h := lt_at ev1 h
  refine pf_X8_45_Unit_0 (v0 := v1) X hP hS dX8_build_31 (fun H locs hP hS => ?_)
  refine lv_aload_n hx hb dX8_build_34 rfl (lv_at hl 0 rfl) ?_
  refine lv_aload_n hx hb dX8_build_35 rfl (lv_at hl 0 rfl) ?_
  obtain ⟨o2, hco2, h⟩ := bd_of h
  refine kS (rest := [.ref a0, .ref a0]) X dX8_build_36 wd_2_0 mw_X8_eighthTurn wd_2_1 hP hS (fun _ z => z) (c_X8_eighthTurn hco2) rfl hl.1 rfl (Nat.le_of_ble_eq_true rfl) rfl rfl ⟨Nat.le_of_ble_eq_true rfl, Nat.le_of_ble_eq_true rfl⟩ (fun H locs hP _ _ hS => ?_)
  refine W.eq (g2 := F0 m 39 ls [.long o2, .ref a0, .ref a0]) rfl ?_
  obtain ⟨o3, hco3, h⟩ := bd_of h
  refine kV (rest := [.ref a0]) X dX8_build_39 wd_2_8 mw_X8_rounded wd_2_10 wp_1_1 hP (k0 := 0) rfl rfl rfl hS (fun _ z => z) (c_X8_rounded hco3) rfl hl.1 rfl (Nat.le_of_ble_eq_true rfl) rfl rfl ⟨Nat.le_of_ble_eq_true rfl, Nat.le_of_ble_eq_true rfl⟩ (fun H locs hP _ _ hS => ?_)
  refine W.eq (g2 := F0 m 42 ls [.long o3, .ref a0]) rfl ?_
  refine pf_X8_56_Unit_0 (v0 := o3) X hP hS dX8_build_42 (fun H locs hP hS => ?_)
  refine lv_aload_n hx hb dX8_build_45 rfl (lv_at hl 0 rfl) ?_
  refine lv_ldc2 (v := 2) hx hb X.2.2.2.1 (X.2.2.2.2.1 _ wd_2_12) dX8_build_46 ?_
  refine lv_aload_n hx hb dX8_build_49 rfl (lv_at hl 0 rfl) ?_
  refine gf_X8_56_Unit_0 X hP dX8_build_50 ?_
  refine lv_lmul hx hb dX8_build_53 ?_
  refine lv_topl (fun v4 ev4 => ?_)
  have h := lt_at ev4 h
  refine pf_X8_62_Unit_0 (v0 := v4) X hP hS dX8_build_54 (fun H locs hP hS => ?_)
  refine lv_aload_n hx hb dX8_build_57 rfl (lv_at hl 0 rfl) ?_
  refine lv_aload_n hx hb dX8_build_58 rfl (lv_at hl 0 rfl) ?_
  refine lv_ldc2 (v := 2) hx hb X.2.2.2.1 (X.2.2.2.2.1 _ wd_2_12) dX8_build_59 ?_
  refine lv_iconst (v := 3) hx hb dX8_build_62 rfl ?_
  refine lv_iconst (v := 0) hx hb dX8_build_63 rfl ?_
  obtain ⟨o5, hco5, h⟩ := bd_of h
  refine kS (rest := [.long (2 : Int64), .ref a0, .ref a0]) X dX8_build_64 wd_2_4 mw_X8_ofOneOver wd_2_5 hP hS (fun _ z => z) (c_X8_ofOneOver hco5) rfl hl.1 rfl (Nat.le_of_ble_eq_true rfl) rfl rfl ⟨Nat.le_of_ble_eq_true rfl, Nat.le_of_ble_eq_true rfl⟩ (fun H locs hP _ _ hS => ?_)
  refine W.eq (g2 := F0 m 67 ls [.long o5, .long (2 : Int64), .ref a0, .ref a0]) rfl ?_
  refine lv_lmul hx hb dX8_build_67 ?_
  obtain ⟨o6, hco6, h⟩ := bd_of h
  refine kV (rest := [.ref a0]) X dX8_build_68 wd_2_8 mw_X8_rounded wd_2_10 wp_1_1 hP (k0 := 0) rfl rfl rfl hS (fun _ z => z) (c_X8_rounded hco6) rfl hl.1 rfl (Nat.le_of_ble_eq_true rfl) rfl rfl ⟨Nat.le_of_ble_eq_true rfl, Nat.le_of_ble_eq_true rfl⟩ (fun H locs hP _ _ hS => ?_)
  refine W.eq (g2 := F0 m 71 ls [.long o6, .ref a0]) rfl ?_
  refine pf_X8_69_Unit_0 (v0 := o6) X hP hS dX8_build_71 (fun H locs hP hS => ?_)
  refine lv_iconst (v := 0) hx hb dX8_build_74 rfl ?_
  refine lv_istore (lv' := [(6, .int 0), (0, .ref a0), (1, .int p0), (2, .int p1), (3, .int p2), (4, .int p3), (5, .int (bI p4))]) hx hb dX8_build_75 hl (by decide) rfl (fun ls hl => ?_)
  exact l77  FU (0 : Int32) p0 p1 v1 p2 p3 p4 v4 o3 o6 u_shifts u_angles u_gains u_undos u_digits _ _ _ h hP hS (lv_sub hl [1, 0] rfl)
abbrev rm_X8_needsWord : Room := { frames := 1, cells := 0, slots := 0, locals := 21 }
set_option maxRecDepth 100000 in
set_option maxHeartbeats 4000000 in
theorem c_X8_needsWord {g : gT} {l : Launch} {A : Nat → Prop} {a0 a1 a2 a3 a4 a5 : Nat} {u_width : Int32} {u_guard : Int32} {u_bits : Int32} {u_stages : Int32} {u_places : Int32} {u_near : Bool} {u_quarter : Int64} {u_eighth : Int64} {u_ln : Int64} {u_shifts : Nat → Int32} {u_angles : Nat → Int64} {u_gains : Nat → Int64} {u_undos : Nat → Int64} {u_digits : Nat → Int32} {p0 : Int32} {p1 : Int32} {o : Bool} (h : f_X8_needsWord p0 p1 u_bits u_shifts u_angles = some o) : Std g l yX8_needsWord (.code yX8_needsWord cX8_needsWord 4 (some .boolean) :: gw) rm_X8_needsWord A [.ref a0, .int p0, .int p1] (wUnit g a0 a1 a2 a3 a4 a5 u_width u_guard u_bits u_stages u_places u_near u_quarter u_eighth u_ln u_shifts u_angles u_gains u_undos u_digits) (wUnit g a0 a1 a2 a3 a4 a5 u_width u_guard u_bits u_stages u_places u_near u_quarter u_eighth u_ln u_shifts u_angles u_gains u_undos u_digits) (some (.int (bI o))) := by
  refine std_z (own := RX8) (by decide +kernel) rfl (Nat.le_of_ble_eq_true rfl) ?_
  intro p e s m args below meth c Q X ret H locs hP hS ls hl
  have hx := X.1
  have hb := X.2.1
  have hl : lv_has ls 4 [(0, .ref a0), (1, .int p0), (2, .int p1)] := hl
  have ret : ∀ {H : Heap} {locs : List Loc} {pc : Nat} {ls : Array Slot} {v : Bool} , some (v) = some o → WP g A (wUnit g a0 a1 a2 a3 a4 a5 u_width u_guard u_bits u_stages u_places u_near u_quarter u_eighth u_ln u_shifts u_angles u_gains u_undos u_digits) H → va_S A s.heap H locs → decode cX8_needsWord pc = .ok (.ireturn, 1) → W p l e rm_X8_needsWord s m args below meth c H locs 0 0 Q (F0 m pc ls [.int (bI v)]) := by
    intro H locs pc ls v h hP hS hd
    cases h
    exact ret hP hS hd
  have b40 : ∀  (H : Heap) (locs : List Loc) (ls : Array Slot), f_X8_needsWord_b40  u_bits u_shifts u_angles   = some o → WP g A (wUnit g a0 a1 a2 a3 a4 a5 u_width u_guard u_bits u_stages u_places u_near u_quarter u_eighth u_ln u_shifts u_angles u_gains u_undos u_digits) H → va_S A s.heap H locs → lv_has ls 4 [] → W p l e rm_X8_needsWord s m args below meth c H locs 0 0 Q (F0 m 40 ls []) := by
    intro   H locs ls h hP hS hl
    unfold f_X8_needsWord_b40 at h
    refine lv_iconst (v := 1) hx hb dX8_needsWord_40 rfl ?_
    refine lv_goto (tgt := 45) hx hb dX8_needsWord_41 rfl ?_
    exact ret h hP hS dX8_needsWord_45
  unfold f_X8_needsWord at h
  refine lv_iload_n hx hb dX8_needsWord_0 rfl (lv_at hl 1 rfl) ?_
  refine lv_bipush (v := 24) hx hb dX8_needsWord_1 rfl ?_
  refine lv_imul hx hb dX8_needsWord_3 ?_
  refine lv_iload_n hx hb dX8_needsWord_4 rfl (lv_at hl 2 rfl) ?_
  refine lv_iadd hx hb dX8_needsWord_5 ?_
  refine lv_topi (fun v1 ev1 => ?_)
  have h := lt_at ev1 h
  refine lv_istore_n (lv' := [(3, .int v1), (0, .ref a0), (1, .int p0), (2, .int p1)]) hx hb dX8_needsWord_6 rfl hl (by decide) rfl (fun ls hl => ?_)
  refine lv_aload_n hx hb dX8_needsWord_7 rfl (lv_at hl 1 rfl) ?_
  refine gf_X8_9_Unit_0 X hP dX8_needsWord_8 ?_
  refine lv_iload_n hx hb dX8_needsWord_11 rfl (lv_at hl 0 rfl) ?_
  obtain ⟨hi12, h⟩ := gv_of h
  refine al_Unit_1 X hP hi12 dX8_needsWord_12 ?_
  refine lv_aload_n hx hb dX8_needsWord_13 rfl (lv_at hl 1 rfl) ?_
  refine gf_X8_45_Unit_0 X hP dX8_needsWord_14 ?_
  refine lv_icmp_gt (tgt := 40) hx hb dX8_needsWord_17 rfl (fun c17 => ?_) (fun c17 => ?_)
  · have h := br_p c17 h
    exact b40    _ _ _ h hP hS (lv_sub hl [] rfl)
  · have h := br_n c17 h
    refine lv_aload_n hx hb dX8_needsWord_20 rfl (lv_at hl 1 rfl) ?_
    refine gf_X8_15_Unit_0 X hP dX8_needsWord_21 ?_
    refine lv_iload_n hx hb dX8_needsWord_24 rfl (lv_at hl 0 rfl) ?_
    obtain ⟨hi25, h⟩ := gv_of h
    refine al_Unit_2 X hP hi25 dX8_needsWord_25 ?_
    refine lv_aload_n hx hb dX8_needsWord_26 rfl (lv_at hl 1 rfl) ?_
    refine lv_aload_n hx hb dX8_needsWord_27 rfl (lv_at hl 1 rfl) ?_
    refine gf_X8_9_Unit_0 X hP dX8_needsWord_28 ?_
    refine lv_iload_n hx hb dX8_needsWord_31 rfl (lv_at hl 0 rfl) ?_
    obtain ⟨hi32, h⟩ := gv_of h
    refine al_Unit_1 X hP hi32 dX8_needsWord_32 ?_
    obtain ⟨o2, hco2, h⟩ := bd_of h
    refine kV (rest := [.long (u_angles (v1).toNatClampNeg)]) X dX8_needsWord_33 wd_2_21 mw_X8_powerFor wd_2_23 wp_1_4 hP (k0 := 0) rfl rfl rfl hS (fun _ z => z) (c_X8_powerFor hco2) rfl hl.1 rfl (Nat.le_of_ble_eq_true rfl) rfl rfl ⟨Nat.le_of_ble_eq_true rfl, Nat.le_of_ble_eq_true rfl⟩ (fun H locs hP _ _ hS => ?_)
    refine W.eq (g2 := F0 m 36 ls [.long o2, .long (u_angles (v1).toNatClampNeg)]) rfl ?_
    refine jx1 h (P := fun (v3 : Bool) => ∀ ls : Array Slot, lv_has ls 4 [] → W p l e rm_X8_needsWord s m args below meth c H locs 0 0 Q (F0 m 45 ls [.int (bI v3)])) ?_ ?_
    · intro v3 h ls hl
      exact ret h hP hS dX8_needsWord_45
    · intro J h
      refine rl_eq (tgt := 44) hx hb dX8_needsWord_36 dX8_needsWord_37 rfl (fun c36 => ?_) (fun c36 => ?_)
      · refine lv_iconst (v := 0) hx hb dX8_needsWord_44 rfl ?_
        exact J _ (lt_ip c36 h) ls (lv_sub hl [] rfl)
      · refine lv_iconst (v := 1) hx hb dX8_needsWord_40 rfl ?_
        refine lv_goto (tgt := 45) hx hb dX8_needsWord_41 rfl ?_
        exact J _ (lt_in c36 h) ls (lv_sub hl [] rfl)
abbrev rm_X8_digitsUsed : Room := { frames := 0, cells := 0, slots := 0, locals := 0 }
set_option maxRecDepth 100000 in
set_option maxHeartbeats 4000000 in
theorem c_X8_digitsUsed {g : gT} {l : Launch} {A : Nat → Prop} {a0 a1 a2 a3 a4 a5 : Nat} {u_width : Int32} {u_guard : Int32} {u_bits : Int32} {u_stages : Int32} {u_places : Int32} {u_near : Bool} {u_quarter : Int64} {u_eighth : Int64} {u_ln : Int64} {u_shifts : Nat → Int32} {u_angles : Nat → Int64} {u_gains : Nat → Int64} {u_undos : Nat → Int64} {u_digits : Nat → Int32} {p0 : Int32} {o : Int32} (h : f_X8_digitsUsed p0 u_digits = some o) : Std g l yX8_digitsUsed (.code yX8_digitsUsed cX8_digitsUsed 4 (some .int) :: gw) rm_X8_digitsUsed A [.ref a0, .int p0] (wUnit g a0 a1 a2 a3 a4 a5 u_width u_guard u_bits u_stages u_places u_near u_quarter u_eighth u_ln u_shifts u_angles u_gains u_undos u_digits) (wUnit g a0 a1 a2 a3 a4 a5 u_width u_guard u_bits u_stages u_places u_near u_quarter u_eighth u_ln u_shifts u_angles u_gains u_undos u_digits) (some (.int o)) := by
  refine std_i (own := RX8) (by decide +kernel) rfl (Nat.le_of_ble_eq_true rfl) ?_
  intro p e s m args below meth c Q X ret H locs hP hS ls hl
  have hx := X.1
  have hb := X.2.1
  have hl : lv_has ls 4 [(0, .ref a0), (1, .int p0)] := hl
  have ret : ∀ {H : Heap} {locs : List Loc} {pc : Nat} {ls : Array Slot} {v : Int32} , some (v) = some o → WP g A (wUnit g a0 a1 a2 a3 a4 a5 u_width u_guard u_bits u_stages u_places u_near u_quarter u_eighth u_ln u_shifts u_angles u_gains u_undos u_digits) H → va_S A s.heap H locs → decode cX8_digitsUsed pc = .ok (.ireturn, 1) → W p l e rm_X8_digitsUsed s m args below meth c H locs 0 0 Q (F0 m pc ls [.int v]) := by
    intro H locs pc ls v h hP hS hd
    cases h
    exact ret hP hS hd
  have l4 : ∀ (n : Nat), ∀ (x1 : Int32) (x2 : Int32) (x3 : Int32) (H : Heap) (locs : List Loc) (ls : Array Slot), f_X8_digitsUsed_l4  u_digits  n x1 x2 x3 = some o → WP g A (wUnit g a0 a1 a2 a3 a4 a5 u_width u_guard u_bits u_stages u_places u_near u_quarter u_eighth u_ln u_shifts u_angles u_gains u_undos u_digits) H → va_S A s.heap H locs → lv_has ls 4 [(0, .ref a0), (1, .int x1), (2, .int x2), (3, .int x3)] → W p l e rm_X8_digitsUsed s m args below meth c H locs 0 0 Q (F0 m 4 ls []) := by
    intro  n
    induction n with
    | zero =>
      intro x1 x2 x3 H locs ls h
      exact nz_of h
    | succ n ih =>
      intro x1 x2 x3 H locs ls h hP hS hl
      rw [f_X8_digitsUsed_l4] at h
      refine lv_iload_n hx hb dX8_digitsUsed_4 rfl (lv_at hl 3 rfl) ?_
      refine lv_bipush (v := 32) hx hb dX8_digitsUsed_5 rfl ?_
      refine lv_icmp_ge (tgt := 38) hx hb dX8_digitsUsed_7 rfl (fun c7 => ?_) (fun c7 => ?_)
      · have h := br_p c7 h
        refine lv_iload_n hx hb dX8_digitsUsed_38 rfl (lv_at hl 2 rfl) ?_
        exact ret h hP hS dX8_digitsUsed_39
      · have h := br_n c7 h
        refine lv_iload_n hx hb dX8_digitsUsed_10 rfl (lv_at hl 2 rfl) ?_
        refine lv_aload_n hx hb dX8_digitsUsed_11 rfl (lv_at hl 0 rfl) ?_
        refine gf_X8_25_Unit_0 X hP dX8_digitsUsed_12 ?_
        refine lv_iload_n hx hb dX8_digitsUsed_15 rfl (lv_at hl 1 rfl) ?_
        refine lv_bipush (v := 32) hx hb dX8_digitsUsed_16 rfl ?_
        refine lv_imul hx hb dX8_digitsUsed_18 ?_
        refine lv_iload_n hx hb dX8_digitsUsed_19 rfl (lv_at hl 3 rfl) ?_
        refine lv_iadd hx hb dX8_digitsUsed_20 ?_
        obtain ⟨hi21, h⟩ := gv_of h
        refine al_Unit_5 X hP hi21 dX8_digitsUsed_21 ?_
        refine jx1 h (P := fun (v1 : Bool) => ∀ ls : Array Slot, lv_has ls 4 [(0, .ref a0), (1, .int x1), (3, .int x3)] → W p l e rm_X8_digitsUsed s m args below meth c H locs 0 0 Q (F0 m 30 ls [.int (bI v1), .int x2])) ?_ ?_
        · intro v1 h ls hl
          refine lv_iadd hx hb dX8_digitsUsed_30 ?_
          refine lv_topi (fun v2 ev2 => ?_)
          have h := lt_at ev2 h
          refine lv_istore_n (lv' := [(2, .int v2), (0, .ref a0), (1, .int x1), (3, .int x3)]) hx hb dX8_digitsUsed_31 rfl hl (by decide) rfl (fun ls hl => ?_)
          obtain ⟨v3, ev3⟩ : ∃ z : Int32, z = (x3 + 1) := ⟨_, rfl⟩
          have h := lt_at ev3 h
          refine lv_iinc (v := v3) (lv' := [(3, .int v3), (2, .int v2), (0, .ref a0), (1, .int x1)]) hx hb dX8_digitsUsed_32 hl (k := 3) rfl (by rw [ev3]; rfl) (by decide) rfl (fun ls hl => ?_)
          refine lv_goto (tgt := 4) hx hb dX8_digitsUsed_35 rfl ?_
          exact ih x1 v2 v3 _ _ _ h hP hS (lv_sub hl [2, 3, 1, 0] rfl)
        · intro J h
          refine lv_if_eq (tgt := 29) hx hb dX8_digitsUsed_22 rfl (fun c22 => ?_) (fun c22 => ?_)
          · refine lv_iconst (v := 0) hx hb dX8_digitsUsed_29 rfl ?_
            exact J _ (lt_ip c22 h) ls (lv_sub hl [0, 1, 3] rfl)
          · refine lv_iconst (v := 1) hx hb dX8_digitsUsed_25 rfl ?_
            refine lv_goto (tgt := 30) hx hb dX8_digitsUsed_26 rfl ?_
            exact J _ (lt_in c22 h) ls (lv_sub hl [0, 1, 3] rfl)
  unfold f_X8_digitsUsed at h
  refine lv_iconst (v := 0) hx hb dX8_digitsUsed_0 rfl ?_
  refine lv_istore_n (lv' := [(2, .int 0), (0, .ref a0), (1, .int p0)]) hx hb dX8_digitsUsed_1 rfl hl (by decide) rfl (fun ls hl => ?_)
  refine lv_iconst (v := 0) hx hb dX8_digitsUsed_2 rfl ?_
  refine lv_istore_n (lv' := [(3, .int 0), (2, .int 0), (0, .ref a0), (1, .int p0)]) hx hb dX8_digitsUsed_3 rfl hl (by decide) rfl (fun ls hl => ?_)
  exact l4  FU p0 (0 : Int32) (0 : Int32) _ _ _ h hP hS (lv_sub hl [2, 3, 1, 0] rfl)
abbrev rm_X8_hasWordBefore : Room := { frames := 2, cells := 0, slots := 0, locals := 44 }
set_option maxRecDepth 100000 in
set_option maxHeartbeats 4000000 in
theorem c_X8_hasWordBefore {g : gT} {l : Launch} {A : Nat → Prop} {a0 a1 a2 a3 a4 a5 : Nat} {u_width : Int32} {u_guard : Int32} {u_bits : Int32} {u_stages : Int32} {u_places : Int32} {u_near : Bool} {u_quarter : Int64} {u_eighth : Int64} {u_ln : Int64} {u_shifts : Nat → Int32} {u_angles : Nat → Int64} {u_gains : Nat → Int64} {u_undos : Nat → Int64} {u_digits : Nat → Int32} {p0 : Int32} {p1 : Int32} {o : Bool} (h : f_X8_hasWordBefore p0 p1 u_bits u_shifts u_angles = some o) : Std g l yX8_hasWordBefore (.code yX8_hasWordBefore cX8_hasWordBefore 5 (some .boolean) :: gw) rm_X8_hasWordBefore A [.ref a0, .int p0, .int p1] (wUnit g a0 a1 a2 a3 a4 a5 u_width u_guard u_bits u_stages u_places u_near u_quarter u_eighth u_ln u_shifts u_angles u_gains u_undos u_digits) (wUnit g a0 a1 a2 a3 a4 a5 u_width u_guard u_bits u_stages u_places u_near u_quarter u_eighth u_ln u_shifts u_angles u_gains u_undos u_digits) (some (.int (bI o))) := by
  refine std_z (own := RX8) (by decide +kernel) rfl (Nat.le_of_ble_eq_true rfl) ?_
  intro p e s m args below meth c Q X ret H locs hP hS ls hl
  have hx := X.1
  have hb := X.2.1
  have hl : lv_has ls 5 [(0, .ref a0), (1, .int p0), (2, .int p1)] := hl
  have ret : ∀ {H : Heap} {locs : List Loc} {pc : Nat} {ls : Array Slot} {v : Bool} , some (v) = some o → WP g A (wUnit g a0 a1 a2 a3 a4 a5 u_width u_guard u_bits u_stages u_places u_near u_quarter u_eighth u_ln u_shifts u_angles u_gains u_undos u_digits) H → va_S A s.heap H locs → decode cX8_hasWordBefore pc = .ok (.ireturn, 1) → W p l e rm_X8_hasWordBefore s m args below meth c H locs 0 0 Q (F0 m pc ls [.int (bI v)]) := by
    intro H locs pc ls v h hP hS hd
    cases h
    exact ret hP hS hd
  have b47 : ∀ (k8 : Int32 → Int32 → Int32 → Int32 → Option (Bool)) (hk8 : ∀ (x1 : Int32) (x2 : Int32) (x3 : Int32) (x4 : Int32) (H : Heap) (locs : List Loc) (ls : Array Slot), k8 x1 x2 x3 x4 = some o → WP g A (wUnit g a0 a1 a2 a3 a4 a5 u_width u_guard u_bits u_stages u_places u_near u_quarter u_eighth u_ln u_shifts u_angles u_gains u_undos u_digits) H → va_S A s.heap H locs → lv_has ls 5 [(0, .ref a0), (1, .int x1), (2, .int x2), (3, .int x3), (4, .int x4)] → W p l e rm_X8_hasWordBefore s m args below meth c H locs 0 0 Q (F0 m 8 ls [])) , ∀ (x1 : Int32) (x2 : Int32) (x3 : Int32) (x4 : Int32) (H : Heap) (locs : List Loc) (ls : Array Slot), f_X8_hasWordBefore_b47  u_bits u_shifts u_angles k8 x1 x2 x3 x4 = some o → WP g A (wUnit g a0 a1 a2 a3 a4 a5 u_width u_guard u_bits u_stages u_places u_near u_quarter u_eighth u_ln u_shifts u_angles u_gains u_undos u_digits) H → va_S A s.heap H locs → lv_has ls 5 [(0, .ref a0), (1, .int x1), (2, .int x2), (3, .int x3), (4, .int x4)] → W p l e rm_X8_hasWordBefore s m args below meth c H locs 0 0 Q (F0 m 47 ls []) := by
    intro k8 hk8 x1 x2 x3 x4 H locs ls h hP hS hl
    unfold f_X8_hasWordBefore_b47 at h
    obtain ⟨v3, ev3⟩ : ∃ z : Int32, z = (x4 + 1) := ⟨_, rfl⟩
    have h := lt_at ev3 h
    refine lv_iinc (v := v3) (lv' := [(4, .int v3), (0, .ref a0), (1, .int x1), (2, .int x2), (3, .int x3)]) hx hb dX8_hasWordBefore_47 hl (k := 4) rfl (by rw [ev3]; rfl) (by decide) rfl (fun ls hl => ?_)
    refine lv_goto (tgt := 8) hx hb dX8_hasWordBefore_50 rfl ?_
    exact hk8 x1 x2 x3 v3 _ _ _ h hP hS (lv_sub hl [1, 2, 3, 4, 0] rfl)
  have l8 : ∀ (n : Nat), ∀ (x1 : Int32) (x2 : Int32) (x3 : Int32) (x4 : Int32) (H : Heap) (locs : List Loc) (ls : Array Slot), f_X8_hasWordBefore_l8  u_bits u_shifts u_angles  n x1 x2 x3 x4 = some o → WP g A (wUnit g a0 a1 a2 a3 a4 a5 u_width u_guard u_bits u_stages u_places u_near u_quarter u_eighth u_ln u_shifts u_angles u_gains u_undos u_digits) H → va_S A s.heap H locs → lv_has ls 5 [(0, .ref a0), (1, .int x1), (2, .int x2), (3, .int x3), (4, .int x4)] → W p l e rm_X8_hasWordBefore s m args below meth c H locs 0 0 Q (F0 m 8 ls []) := by
    intro  n
    induction n with
    | zero =>
      intro x1 x2 x3 x4 H locs ls h
      exact nz_of h
    | succ n ih =>
      intro x1 x2 x3 x4 H locs ls h hP hS hl
      rw [f_X8_hasWordBefore_l8] at h
      refine lv_iload hx hb dX8_hasWordBefore_8 (lv_at hl 4 rfl) ?_
      refine lv_iload_n hx hb dX8_hasWordBefore_10 rfl (lv_at hl 2 rfl) ?_
      refine lv_icmp_ge (tgt := 53) hx hb dX8_hasWordBefore_11 rfl (fun c11 => ?_) (fun c11 => ?_)
      · have h := br_p c11 h
        refine lv_iconst (v := 0) hx hb dX8_hasWordBefore_53 rfl ?_
        exact ret h hP hS dX8_hasWordBefore_54
      · have h := br_n c11 h
        refine lv_aload_n hx hb dX8_hasWordBefore_14 rfl (lv_at hl 0 rfl) ?_
        refine lv_iload_n hx hb dX8_hasWordBefore_15 rfl (lv_at hl 1 rfl) ?_
        refine lv_iload hx hb dX8_hasWordBefore_16 (lv_at hl 4 rfl) ?_
        obtain ⟨o2, hco2, h⟩ := bd_of h
        refine kV (rest := []) X dX8_hasWordBefore_18 wd_3_110 mw_X8_needsWord wd_3_96 wp_3_1 hP (k0 := 0) rfl rfl rfl hS (fun _ z => z) (c_X8_needsWord hco2) rfl hl.1 rfl (Nat.le_of_ble_eq_true rfl) rfl rfl ⟨Nat.le_of_ble_eq_true rfl, Nat.le_of_ble_eq_true rfl⟩ (fun H locs hP _ _ hS => ?_)
        refine W.eq (g2 := F0 m 21 ls [.int (bI o2)]) rfl ?_
        refine rb_eq (tgt := 47) hx hb dX8_hasWordBefore_21 rfl (fun c21 => ?_) (fun c21 => ?_)
        · have h := br_n c21 h
          exact b47 (f_X8_hasWordBefore_l8  u_bits u_shifts u_angles  n) ih  x1 x2 x3 x4 _ _ _ h hP hS (lv_sub hl [0, 1, 2, 3, 4] rfl)
        · have h := br_p c21 h
          refine lv_aload_n hx hb dX8_hasWordBefore_24 rfl (lv_at hl 0 rfl) ?_
          refine gf_X8_15_Unit_0 X hP dX8_hasWordBefore_25 ?_
          refine lv_iload_n hx hb dX8_hasWordBefore_28 rfl (lv_at hl 3 rfl) ?_
          refine lv_iload hx hb dX8_hasWordBefore_29 (lv_at hl 4 rfl) ?_
          refine lv_iadd hx hb dX8_hasWordBefore_31 ?_
          obtain ⟨hi32, h⟩ := gv_of h
          refine al_Unit_2 X hP hi32 dX8_hasWordBefore_32 ?_
          refine lv_aload_n hx hb dX8_hasWordBefore_33 rfl (lv_at hl 0 rfl) ?_
          refine gf_X8_15_Unit_0 X hP dX8_hasWordBefore_34 ?_
          refine lv_iload_n hx hb dX8_hasWordBefore_37 rfl (lv_at hl 3 rfl) ?_
          refine lv_iload_n hx hb dX8_hasWordBefore_38 rfl (lv_at hl 2 rfl) ?_
          refine lv_iadd hx hb dX8_hasWordBefore_39 ?_
          obtain ⟨hi40, h⟩ := gv_of h
          refine al_Unit_2 X hP hi40 dX8_hasWordBefore_40 ?_
          refine rl_ne (tgt := 47) hx hb dX8_hasWordBefore_41 dX8_hasWordBefore_42 rfl (fun c41 => ?_) (fun c41 => ?_)
          · have h := br_n c41 h
            exact b47 (f_X8_hasWordBefore_l8  u_bits u_shifts u_angles  n) ih  x1 x2 x3 x4 _ _ _ h hP hS (lv_sub hl [0, 1, 2, 3, 4] rfl)
          · have h := br_p c41 h
            refine lv_iconst (v := 1) hx hb dX8_hasWordBefore_45 rfl ?_
            exact ret h hP hS dX8_hasWordBefore_46
  unfold f_X8_hasWordBefore at h
  refine lv_iload_n hx hb dX8_hasWordBefore_0 rfl (lv_at hl 1 rfl) ?_
  refine lv_bipush (v := 24) hx hb dX8_hasWordBefore_1 rfl ?_
  refine lv_imul hx hb dX8_hasWordBefore_3 ?_
  refine lv_topi (fun v1 ev1 => ?_)
  have h := lt_at ev1 h
  refine lv_istore_n (lv' := [(3, .int v1), (0, .ref a0), (1, .int p0), (2, .int p1)]) hx hb dX8_hasWordBefore_4 rfl hl (by decide) rfl (fun ls hl => ?_)
  refine lv_iconst (v := 0) hx hb dX8_hasWordBefore_5 rfl ?_
  refine lv_istore (lv' := [(4, .int 0), (3, .int v1), (0, .ref a0), (1, .int p0), (2, .int p1)]) hx hb dX8_hasWordBefore_6 hl (by decide) rfl (fun ls hl => ?_)
  exact l8  FU p0 p1 v1 (0 : Int32) _ _ _ h hP hS (lv_sub hl [2, 3, 4, 1, 0] rfl)
abbrev rm_X8_words : Room := { frames := 3, cells := 0, slots := 0, locals := 68 }
set_option maxRecDepth 100000 in
set_option maxHeartbeats 4000000 in
theorem c_X8_words {g : gT} {l : Launch} {A : Nat → Prop} {a0 a1 a2 a3 a4 a5 : Nat} {u_width : Int32} {u_guard : Int32} {u_bits : Int32} {u_stages : Int32} {u_places : Int32} {u_near : Bool} {u_quarter : Int64} {u_eighth : Int64} {u_ln : Int64} {u_shifts : Nat → Int32} {u_angles : Nat → Int64} {u_gains : Nat → Int64} {u_undos : Nat → Int64} {u_digits : Nat → Int32} {p0 : Int32} {o : Int32} (h : f_X8_words p0 u_bits u_stages u_shifts u_angles = some o) : Std g l yX8_words (.code yX8_words cX8_words 4 (some .int) :: gw) rm_X8_words A [.ref a0, .int p0] (wUnit g a0 a1 a2 a3 a4 a5 u_width u_guard u_bits u_stages u_places u_near u_quarter u_eighth u_ln u_shifts u_angles u_gains u_undos u_digits) (wUnit g a0 a1 a2 a3 a4 a5 u_width u_guard u_bits u_stages u_places u_near u_quarter u_eighth u_ln u_shifts u_angles u_gains u_undos u_digits) (some (.int o)) := by
  refine std_i (own := RX8) (by decide +kernel) rfl (Nat.le_of_ble_eq_true rfl) ?_
  intro p e s m args below meth c Q X ret H locs hP hS ls hl
  have hx := X.1
  have hb := X.2.1
  have hl : lv_has ls 4 [(0, .ref a0), (1, .int p0)] := hl
  have ret : ∀ {H : Heap} {locs : List Loc} {pc : Nat} {ls : Array Slot} {v : Int32} , some (v) = some o → WP g A (wUnit g a0 a1 a2 a3 a4 a5 u_width u_guard u_bits u_stages u_places u_near u_quarter u_eighth u_ln u_shifts u_angles u_gains u_undos u_digits) H → va_S A s.heap H locs → decode cX8_words pc = .ok (.ireturn, 1) → W p l e rm_X8_words s m args below meth c H locs 0 0 Q (F0 m pc ls [.int v]) := by
    intro H locs pc ls v h hP hS hd
    cases h
    exact ret hP hS hd
  have b36 : ∀ (k4 : Int32 → Int32 → Int32 → Option (Int32)) (hk4 : ∀ (x1 : Int32) (x2 : Int32) (x3 : Int32) (H : Heap) (locs : List Loc) (ls : Array Slot), k4 x1 x2 x3 = some o → WP g A (wUnit g a0 a1 a2 a3 a4 a5 u_width u_guard u_bits u_stages u_places u_near u_quarter u_eighth u_ln u_shifts u_angles u_gains u_undos u_digits) H → va_S A s.heap H locs → lv_has ls 4 [(0, .ref a0), (1, .int x1), (2, .int x2), (3, .int x3)] → W p l e rm_X8_words s m args below meth c H locs 0 0 Q (F0 m 4 ls [])) , ∀ (x1 : Int32) (x3 : Int32) (t0 : Int32) (t1 : Bool) (H : Heap) (locs : List Loc) (ls : Array Slot), f_X8_words_b36  u_bits u_stages u_shifts u_angles k4 x1 x3 t0 t1 = some o → WP g A (wUnit g a0 a1 a2 a3 a4 a5 u_width u_guard u_bits u_stages u_places u_near u_quarter u_eighth u_ln u_shifts u_angles u_gains u_undos u_digits) H → va_S A s.heap H locs → lv_has ls 4 [(0, .ref a0), (1, .int x1), (3, .int x3)] → W p l e rm_X8_words s m args below meth c H locs 0 0 Q (F0 m 36 ls [.int (bI t1), .int t0]) := by
    intro k4 hk4 x1 x3 t0 t1 H locs ls h hP hS hl
    unfold f_X8_words_b36 at h
    refine lv_iadd hx hb dX8_words_36 ?_
    refine lv_topi (fun v2 ev2 => ?_)
    have h := lt_at ev2 h
    refine lv_istore_n (lv' := [(2, .int v2), (0, .ref a0), (1, .int x1), (3, .int x3)]) hx hb dX8_words_37 rfl hl (by decide) rfl (fun ls hl => ?_)
    obtain ⟨v3, ev3⟩ : ∃ z : Int32, z = (x3 + 1) := ⟨_, rfl⟩
    have h := lt_at ev3 h
    refine lv_iinc (v := v3) (lv' := [(3, .int v3), (2, .int v2), (0, .ref a0), (1, .int x1)]) hx hb dX8_words_38 hl (k := 3) rfl (by rw [ev3]; rfl) (by decide) rfl (fun ls hl => ?_)
    refine lv_goto (tgt := 4) hx hb dX8_words_41 rfl ?_
    exact hk4 x1 v2 v3 _ _ _ h hP hS (lv_sub hl [2, 3, 1, 0] rfl)
  have b35 : ∀ (k4 : Int32 → Int32 → Int32 → Option (Int32)) (hk4 : ∀ (x1 : Int32) (x2 : Int32) (x3 : Int32) (H : Heap) (locs : List Loc) (ls : Array Slot), k4 x1 x2 x3 = some o → WP g A (wUnit g a0 a1 a2 a3 a4 a5 u_width u_guard u_bits u_stages u_places u_near u_quarter u_eighth u_ln u_shifts u_angles u_gains u_undos u_digits) H → va_S A s.heap H locs → lv_has ls 4 [(0, .ref a0), (1, .int x1), (2, .int x2), (3, .int x3)] → W p l e rm_X8_words s m args below meth c H locs 0 0 Q (F0 m 4 ls [])) , ∀ (x1 : Int32) (x3 : Int32) (t0 : Int32) (H : Heap) (locs : List Loc) (ls : Array Slot), f_X8_words_b35  u_bits u_stages u_shifts u_angles k4 x1 x3 t0 = some o → WP g A (wUnit g a0 a1 a2 a3 a4 a5 u_width u_guard u_bits u_stages u_places u_near u_quarter u_eighth u_ln u_shifts u_angles u_gains u_undos u_digits) H → va_S A s.heap H locs → lv_has ls 4 [(0, .ref a0), (1, .int x1), (3, .int x3)] → W p l e rm_X8_words s m args below meth c H locs 0 0 Q (F0 m 35 ls [.int t0]) := by
    intro k4 hk4 x1 x3 t0 H locs ls h hP hS hl
    unfold f_X8_words_b35 at h
    refine lv_iconst (v := 0) hx hb dX8_words_35 rfl ?_
    exact b36 k4 hk4  x1 x3 t0 false _ _ _ h hP hS (lv_sub hl [0, 1, 2] rfl)
  have l4 : ∀ (n : Nat), ∀ (x1 : Int32) (x2 : Int32) (x3 : Int32) (H : Heap) (locs : List Loc) (ls : Array Slot), f_X8_words_l4  u_bits u_stages u_shifts u_angles  n x1 x2 x3 = some o → WP g A (wUnit g a0 a1 a2 a3 a4 a5 u_width u_guard u_bits u_stages u_places u_near u_quarter u_eighth u_ln u_shifts u_angles u_gains u_undos u_digits) H → va_S A s.heap H locs → lv_has ls 4 [(0, .ref a0), (1, .int x1), (2, .int x2), (3, .int x3)] → W p l e rm_X8_words s m args below meth c H locs 0 0 Q (F0 m 4 ls []) := by
    intro  n
    induction n with
    | zero =>
      intro x1 x2 x3 H locs ls h
      exact nz_of h
    | succ n ih =>
      intro x1 x2 x3 H locs ls h hP hS hl
      rw [f_X8_words_l4] at h
      refine lv_iload_n hx hb dX8_words_4 rfl (lv_at hl 3 rfl) ?_
      refine lv_aload_n hx hb dX8_words_5 rfl (lv_at hl 0 rfl) ?_
      refine gf_X8_35_Unit_0 X hP dX8_words_6 ?_
      refine lv_icmp_ge (tgt := 44) hx hb dX8_words_9 rfl (fun c9 => ?_) (fun c9 => ?_)
      · have h := br_p c9 h
        refine lv_iload_n hx hb dX8_words_44 rfl (lv_at hl 2 rfl) ?_
        exact ret h hP hS dX8_words_45
      · have h := br_n c9 h
        refine lv_iload_n hx hb dX8_words_12 rfl (lv_at hl 2 rfl) ?_
        refine lv_aload_n hx hb dX8_words_13 rfl (lv_at hl 0 rfl) ?_
        refine lv_iload_n hx hb dX8_words_14 rfl (lv_at hl 1 rfl) ?_
        refine lv_iload_n hx hb dX8_words_15 rfl (lv_at hl 3 rfl) ?_
        obtain ⟨o1, hco1, h⟩ := bd_of h
        refine kV (rest := [.int x2]) X dX8_words_16 wd_3_110 mw_X8_needsWord wd_3_96 wp_3_1 hP (k0 := 0) rfl rfl rfl hS (fun _ z => z) (c_X8_needsWord hco1) rfl hl.1 rfl (Nat.le_of_ble_eq_true rfl) rfl rfl ⟨Nat.le_of_ble_eq_true rfl, Nat.le_of_ble_eq_true rfl⟩ (fun H locs hP _ _ hS => ?_)
        refine W.eq (g2 := F0 m 19 ls [.int (bI o1), .int x2]) rfl ?_
        refine rb_eq (tgt := 35) hx hb dX8_words_19 rfl (fun c19 => ?_) (fun c19 => ?_)
        · have h := br_n c19 h
          exact b35 (f_X8_words_l4  u_bits u_stages u_shifts u_angles  n) ih  x1 x3 x2 _ _ _ h hP hS (lv_sub hl [0, 1, 3] rfl)
        · have h := br_p c19 h
          refine lv_aload_n hx hb dX8_words_22 rfl (lv_at hl 0 rfl) ?_
          refine lv_iload_n hx hb dX8_words_23 rfl (lv_at hl 1 rfl) ?_
          refine lv_iload_n hx hb dX8_words_24 rfl (lv_at hl 3 rfl) ?_
          obtain ⟨o4, hco4, h⟩ := bd_of h
          refine kV (rest := [.int x2]) X dX8_words_25 wd_3_111 mw_X8_hasWordBefore wd_3_113 wp_3_4 hP (k0 := 0) rfl rfl rfl hS (fun _ z => z) (c_X8_hasWordBefore hco4) rfl hl.1 rfl (Nat.le_of_ble_eq_true rfl) rfl rfl ⟨Nat.le_of_ble_eq_true rfl, Nat.le_of_ble_eq_true rfl⟩ (fun H locs hP _ _ hS => ?_)
          refine W.eq (g2 := F0 m 28 ls [.int (bI o4), .int x2]) rfl ?_
          refine jx1 h (P := fun (v5 : Bool) => ∀ ls : Array Slot, lv_has ls 4 [(0, .ref a0), (1, .int x1), (3, .int x3)] → W p l e rm_X8_words s m args below meth c H locs 0 0 Q (F0 m 36 ls [.int (bI v5), .int x2])) ?_ ?_
          · intro v5 h ls hl
            refine lv_iadd hx hb dX8_words_36 ?_
            refine lv_topi (fun v6 ev6 => ?_)
            have h := lt_at ev6 h
            refine lv_istore_n (lv' := [(2, .int v6), (0, .ref a0), (1, .int x1), (3, .int x3)]) hx hb dX8_words_37 rfl hl (by decide) rfl (fun ls hl => ?_)
            obtain ⟨v7, ev7⟩ : ∃ z : Int32, z = (x3 + 1) := ⟨_, rfl⟩
            have h := lt_at ev7 h
            refine lv_iinc (v := v7) (lv' := [(3, .int v7), (2, .int v6), (0, .ref a0), (1, .int x1)]) hx hb dX8_words_38 hl (k := 3) rfl (by rw [ev7]; rfl) (by decide) rfl (fun ls hl => ?_)
            refine lv_goto (tgt := 4) hx hb dX8_words_41 rfl ?_
            exact ih x1 v6 v7 _ _ _ h hP hS (lv_sub hl [2, 3, 1, 0] rfl)
          · intro J h
            refine rb_ne (tgt := 35) hx hb dX8_words_28 rfl (fun c28 => ?_) (fun c28 => ?_)
            · refine lv_iconst (v := 0) hx hb dX8_words_35 rfl ?_
              exact J _ (lt_ip c28 h) ls (lv_sub hl [0, 1, 3] rfl)
            · refine lv_iconst (v := 1) hx hb dX8_words_31 rfl ?_
              refine lv_goto (tgt := 36) hx hb dX8_words_32 rfl ?_
              exact J _ (lt_in c28 h) ls (lv_sub hl [0, 1, 3] rfl)
  unfold f_X8_words at h
  refine lv_iconst (v := 0) hx hb dX8_words_0 rfl ?_
  refine lv_istore_n (lv' := [(2, .int 0), (0, .ref a0), (1, .int p0)]) hx hb dX8_words_1 rfl hl (by decide) rfl (fun ls hl => ?_)
  refine lv_iconst (v := 0) hx hb dX8_words_2 rfl ?_
  refine lv_istore_n (lv' := [(3, .int 0), (2, .int 0), (0, .ref a0), (1, .int p0)]) hx hb dX8_words_3 rfl hl (by decide) rfl (fun ls hl => ?_)
  exact l4  FU p0 (0 : Int32) (0 : Int32) _ _ _ h hP hS (lv_sub hl [2, 3, 1, 0] rfl)
abbrev rm_X8_firstWithoutWords : Room := { frames := 2, cells := 0, slots := 0, locals := 44 }
set_option maxRecDepth 100000 in
set_option maxHeartbeats 4000000 in
theorem c_X8_firstWithoutWords {g : gT} {l : Launch} {A : Nat → Prop} {a0 a1 a2 a3 a4 a5 : Nat} {u_width : Int32} {u_guard : Int32} {u_bits : Int32} {u_stages : Int32} {u_places : Int32} {u_near : Bool} {u_quarter : Int64} {u_eighth : Int64} {u_ln : Int64} {u_shifts : Nat → Int32} {u_angles : Nat → Int64} {u_gains : Nat → Int64} {u_undos : Nat → Int64} {u_digits : Nat → Int32} {p0 : Int32} {o : Int32} (h : f_X8_firstWithoutWords p0 u_bits u_stages u_shifts u_angles = some o) : Std g l yX8_firstWithoutWords (.code yX8_firstWithoutWords cX8_firstWithoutWords 3 (some .int) :: gw) rm_X8_firstWithoutWords A [.ref a0, .int p0] (wUnit g a0 a1 a2 a3 a4 a5 u_width u_guard u_bits u_stages u_places u_near u_quarter u_eighth u_ln u_shifts u_angles u_gains u_undos u_digits) (wUnit g a0 a1 a2 a3 a4 a5 u_width u_guard u_bits u_stages u_places u_near u_quarter u_eighth u_ln u_shifts u_angles u_gains u_undos u_digits) (some (.int o)) := by
  refine std_i (own := RX8) (by decide +kernel) rfl (Nat.le_of_ble_eq_true rfl) ?_
  intro p e s m args below meth c Q X ret H locs hP hS ls hl
  have hx := X.1
  have hb := X.2.1
  have hl : lv_has ls 3 [(0, .ref a0), (1, .int p0)] := hl
  have ret : ∀ {H : Heap} {locs : List Loc} {pc : Nat} {ls : Array Slot} {v : Int32} , some (v) = some o → WP g A (wUnit g a0 a1 a2 a3 a4 a5 u_width u_guard u_bits u_stages u_places u_near u_quarter u_eighth u_ln u_shifts u_angles u_gains u_undos u_digits) H → va_S A s.heap H locs → decode cX8_firstWithoutWords pc = .ok (.ireturn, 1) → W p l e rm_X8_firstWithoutWords s m args below meth c H locs 0 0 Q (F0 m pc ls [.int v]) := by
    intro H locs pc ls v h hP hS hd
    cases h
    exact ret hP hS hd
  have b26 : ∀ (x2 : Int32) (H : Heap) (locs : List Loc) (ls : Array Slot), f_X8_firstWithoutWords_b26  u_bits u_stages u_shifts u_angles  x2 = some o → WP g A (wUnit g a0 a1 a2 a3 a4 a5 u_width u_guard u_bits u_stages u_places u_near u_quarter u_eighth u_ln u_shifts u_angles u_gains u_undos u_digits) H → va_S A s.heap H locs → lv_has ls 3 [(2, .int x2)] → W p l e rm_X8_firstWithoutWords s m args below meth c H locs 0 0 Q (F0 m 26 ls []) := by
    intro  x2 H locs ls h hP hS hl
    unfold f_X8_firstWithoutWords_b26 at h
    refine lv_iload_n hx hb dX8_firstWithoutWords_26 rfl (lv_at hl 0 rfl) ?_
    exact ret h hP hS dX8_firstWithoutWords_27
  have l5 : ∀ (n : Nat), ∀ (x1 : Int32) (x2 : Int32) (H : Heap) (locs : List Loc) (ls : Array Slot), f_X8_firstWithoutWords_l5  u_bits u_stages u_shifts u_angles  n x1 x2 = some o → WP g A (wUnit g a0 a1 a2 a3 a4 a5 u_width u_guard u_bits u_stages u_places u_near u_quarter u_eighth u_ln u_shifts u_angles u_gains u_undos u_digits) H → va_S A s.heap H locs → lv_has ls 3 [(0, .ref a0), (1, .int x1), (2, .int x2)] → W p l e rm_X8_firstWithoutWords s m args below meth c H locs 0 0 Q (F0 m 5 ls []) := by
    intro  n
    induction n with
    | zero =>
      intro x1 x2 H locs ls h
      exact nz_of h
    | succ n ih =>
      intro x1 x2 H locs ls h hP hS hl
      rw [f_X8_firstWithoutWords_l5] at h
      refine lv_iload_n hx hb dX8_firstWithoutWords_5 rfl (lv_at hl 2 rfl) ?_
      refine lv_if_le (tgt := 26) hx hb dX8_firstWithoutWords_6 rfl (fun c6 => ?_) (fun c6 => ?_)
      · have h := br_p c6 h
        exact b26   x2 _ _ _ h hP hS (lv_sub hl [2] rfl)
      · have h := br_n c6 h
        refine lv_aload_n hx hb dX8_firstWithoutWords_9 rfl (lv_at hl 0 rfl) ?_
        refine lv_iload_n hx hb dX8_firstWithoutWords_10 rfl (lv_at hl 1 rfl) ?_
        refine lv_iload_n hx hb dX8_firstWithoutWords_11 rfl (lv_at hl 2 rfl) ?_
        refine lv_iconst (v := 1) hx hb dX8_firstWithoutWords_12 rfl ?_
        refine lv_isub hx hb dX8_firstWithoutWords_13 ?_
        obtain ⟨o1, hco1, h⟩ := bd_of h
        refine kV (rest := []) X dX8_firstWithoutWords_14 wd_3_110 mw_X8_needsWord wd_3_96 wp_3_1 hP (k0 := 0) rfl rfl rfl hS (fun _ z => z) (c_X8_needsWord hco1) rfl hl.1 rfl (Nat.le_of_ble_eq_true rfl) rfl rfl ⟨Nat.le_of_ble_eq_true rfl, Nat.le_of_ble_eq_true rfl⟩ (fun H locs hP _ _ hS => ?_)
        refine W.eq (g2 := F0 m 17 ls [.int (bI o1)]) rfl ?_
        refine rb_ne (tgt := 26) hx hb dX8_firstWithoutWords_17 rfl (fun c17 => ?_) (fun c17 => ?_)
        · have h := br_p c17 h
          exact b26   x2 _ _ _ h hP hS (lv_sub hl [2] rfl)
        · have h := br_n c17 h
          obtain ⟨v2, ev2⟩ : ∃ z : Int32, z = (x2 + (-1)) := ⟨_, rfl⟩
          have h := lt_at ev2 h
          refine lv_iinc (v := v2) (lv' := [(2, .int v2), (0, .ref a0), (1, .int x1)]) hx hb dX8_firstWithoutWords_20 hl (k := 2) rfl (by rw [ev2]; rfl) (by decide) rfl (fun ls hl => ?_)
          refine lv_goto (tgt := 5) hx hb dX8_firstWithoutWords_23 rfl ?_
          exact ih x1 v2 _ _ _ h hP hS (lv_sub hl [1, 2, 0] rfl)
  unfold f_X8_firstWithoutWords at h
  refine lv_aload_n hx hb dX8_firstWithoutWords_0 rfl (lv_at hl 0 rfl) ?_
  refine gf_X8_35_Unit_0 X hP dX8_firstWithoutWords_1 ?_
  refine lv_istore_n (lv' := [(2, .int u_stages), (0, .ref a0), (1, .int p0)]) hx hb dX8_firstWithoutWords_4 rfl hl (by decide) rfl (fun ls hl => ?_)
  exact l5  FU p0 u_stages _ _ _ h hP hS (lv_sub hl [1, 2, 0] rfl)
abbrev rm_X8_farthest : Room := { frames := 0, cells := 0, slots := 0, locals := 0 }
set_option maxRecDepth 100000 in
set_option maxHeartbeats 4000000 in
theorem c_X8_farthest {g : gT} {l : Launch} {A : Nat → Prop} {a0 a1 a2 a3 a4 a5 : Nat} {u_width : Int32} {u_guard : Int32} {u_bits : Int32} {u_stages : Int32} {u_places : Int32} {u_near : Bool} {u_quarter : Int64} {u_eighth : Int64} {u_ln : Int64} {u_shifts : Nat → Int32} {u_angles : Nat → Int64} {u_gains : Nat → Int64} {u_undos : Nat → Int64} {u_digits : Nat → Int32} {p0 : Int32} {p1 : Int32} {o : Int64} (h : f_X8_farthest p0 p1 u_guard u_angles = some o) : Std g l yX8_farthest (.code yX8_farthest cX8_farthest 7 (some .long) :: gw) rm_X8_farthest A [.ref a0, .int p0, .int p1] (wUnit g a0 a1 a2 a3 a4 a5 u_width u_guard u_bits u_stages u_places u_near u_quarter u_eighth u_ln u_shifts u_angles u_gains u_undos u_digits) (wUnit g a0 a1 a2 a3 a4 a5 u_width u_guard u_bits u_stages u_places u_near u_quarter u_eighth u_ln u_shifts u_angles u_gains u_undos u_digits) (some (.long o)) := by
  refine std_l (own := RX8) (by decide +kernel) rfl (Nat.le_of_ble_eq_true rfl) ?_
  intro p e s m args below meth c Q X ret H locs hP hS ls hl
  have hx := X.1
  have hb := X.2.1
  have hl : lv_has ls 7 [(0, .ref a0), (1, .int p0), (2, .int p1)] := hl
  have ret : ∀ {H : Heap} {locs : List Loc} {pc : Nat} {ls : Array Slot} {v : Int64} , some (v) = some o → WP g A (wUnit g a0 a1 a2 a3 a4 a5 u_width u_guard u_bits u_stages u_places u_near u_quarter u_eighth u_ln u_shifts u_angles u_gains u_undos u_digits) H → va_S A s.heap H locs → decode cX8_farthest pc = .ok (.lreturn, 1) → W p l e rm_X8_farthest s m args below meth c H locs 0 0 Q (F0 m pc ls [.long v]) := by
    intro H locs pc ls v h hP hS hd
    cases h
    exact ret hP hS hd
  unfold f_X8_farthest at h
  refine lv_aload_n hx hb dX8_farthest_0 rfl (lv_at hl 0 rfl) ?_
  refine gf_X8_15_Unit_0 X hP dX8_farthest_1 ?_
  refine sgN X hS (sfX X).1 wd_4_25 dX8_farthest_4 ?_
  refine lv_iload_n hx hb dX8_farthest_7 rfl (lv_at hl 1 rfl) ?_
  obtain ⟨hi8, h⟩ := gv_of h
  refine stq X hS (sfX X).2.2.2.2.2.2.2.1 hi8 dX8_farthest_8 ?_
  refine W.eq (g2 := F0 m 9 ls [.ref (g.2 (20 + (p0).toNatClampNeg)), .ref a2]) rfl ?_
  refine ofN X hS ((sfX X).2.2.2.2.2.2.2.2.2.2.2.2.1 _ (vin_lt hi8)).2.2.2.2.1 wd_7_232 dX8_farthest_9 ?_
  refine lv_bipush (v := 24) hx hb dX8_farthest_12 rfl ?_
  refine lv_imul hx hb dX8_farthest_14 ?_
  refine lv_iload_n hx hb dX8_farthest_15 rfl (lv_at hl 2 rfl) ?_
  refine lv_iadd hx hb dX8_farthest_16 ?_
  refine lv_iconst (v := 1) hx hb dX8_farthest_17 rfl ?_
  refine lv_isub hx hb dX8_farthest_18 ?_
  obtain ⟨hi19, h⟩ := gv_of h
  refine al_Unit_2 X hP hi19 dX8_farthest_19 ?_
  refine lv_topl (fun v1 ev1 => ?_)
  have h := lt_at ev1 h
  refine lv_lstore_n (lv' := [(3, .long v1), (0, .ref a0), (1, .int p0), (2, .int p1)]) hx hb dX8_farthest_20 rfl hl (by decide) rfl (fun ls hl => ?_)
  refine lv_iload_n hx hb dX8_farthest_21 rfl (lv_at hl 2 rfl) ?_
  refine jx1 h (P := fun (v2 : Int64) => ∀ ls : Array Slot, lv_has ls 7 [(0, .ref a0)] → W p l e rm_X8_farthest s m args below meth c H locs 0 0 Q (F0 m 53 ls [.long v2])) ?_ ?_
  · intro v2 h ls hl
    refine lv_lstore (lv' := [(5, .long v2), (0, .ref a0)]) hx hb dX8_farthest_53 hl (by decide) rfl (fun ls hl => ?_)
    refine lv_lload hx hb dX8_farthest_55 (lv_at hl 0 rfl) ?_
    refine lv_aload_n hx hb dX8_farthest_57 rfl (lv_at hl 1 rfl) ?_
    refine gf_X8_32_Unit_0 X hP dX8_farthest_58 ?_
    refine lv_lshr hx hb dX8_farthest_61 rfl ?_
    refine lv_ldc2 (v := 2) hx hb X.2.2.2.1 (X.2.2.2.2.1 _ wd_2_12) dX8_farthest_62 ?_
    refine lv_ladd hx hb dX8_farthest_65 ?_
    exact ret h hP hS dX8_farthest_66
  · intro J h
    refine lv_if_ne (tgt := 38) hx hb dX8_farthest_22 rfl (fun c22 => ?_) (fun c22 => ?_)
    · refine lv_ldc2 (v := 2) hx hb X.2.2.2.1 (X.2.2.2.2.1 _ wd_2_12) dX8_farthest_38 ?_
      refine lv_lload_n hx hb dX8_farthest_41 rfl (lv_at hl 0 rfl) ?_
      refine lv_lmul hx hb dX8_farthest_42 ?_
      refine lv_bipush (v := 8) hx hb dX8_farthest_43 rfl ?_
      refine lv_iload_n hx hb dX8_farthest_45 rfl (lv_at hl 3 rfl) ?_
      refine lv_imul hx hb dX8_farthest_46 ?_
      refine lv_i2l hx hb dX8_farthest_47 rfl ?_
      refine lv_ladd hx hb dX8_farthest_48 ?_
      refine lv_ldc2 (v := 32) hx hb X.2.2.2.1 (X.2.2.2.2.1 _ wd_4_26) dX8_farthest_49 ?_
      refine lv_ladd hx hb dX8_farthest_52 ?_
      exact J _ (lt_in c22 h) ls (lv_sub hl [1] rfl)
    · refine lv_lload_n hx hb dX8_farthest_25 rfl (lv_at hl 0 rfl) ?_
      refine lv_iconst (v := 4) hx hb dX8_farthest_26 rfl ?_
      refine lv_iload_n hx hb dX8_farthest_27 rfl (lv_at hl 3 rfl) ?_
      refine lv_imul hx hb dX8_farthest_28 ?_
      refine lv_i2l hx hb dX8_farthest_29 rfl ?_
      refine lv_ladd hx hb dX8_farthest_30 ?_
      refine lv_ldc2 (v := 32) hx hb X.2.2.2.1 (X.2.2.2.2.1 _ wd_4_26) dX8_farthest_31 ?_
      refine lv_ladd hx hb dX8_farthest_34 ?_
      refine lv_goto (tgt := 53) hx hb dX8_farthest_35 rfl ?_
      exact J _ (lt_ip c22 h) ls (lv_sub hl [1] rfl)
abbrev rm_X9_forget : Room := { frames := 0, cells := 0, slots := 0, locals := 0 }
set_option maxRecDepth 100000 in
set_option maxHeartbeats 4000000 in
theorem c_X9_forget {g : gT} {l : Launch} {A : Nat → Prop} {a0 a1 a2 a3 : Nat} {x_width : Int32} {x_guard : Int32} {x_stages : Int32} {x_fold : Int32} {x_pipe : Bool} {x_near : Bool} {s_at : Int32} {t_length : Int32} {t_bytes : Nat → Int32}  {o : Int32 × Int32 × Int32 × Int32 × Bool × Bool × Int32} (h : f_X9_forget  x_width x_guard x_stages x_fold x_pipe x_near s_at = some o) : Std g l yX9_forget (.code yX9_forget cX9_forget 1 none :: gw) rm_X9_forget A [.ref a0] (wUText g a0 a1 a2 a3 x_width x_guard x_stages x_fold x_pipe x_near s_at t_length t_bytes) (wUText g a0 a1 a2 a3 o.1 o.2.1 o.2.2.1 o.2.2.2.1 o.2.2.2.2.1 o.2.2.2.2.2.1 o.2.2.2.2.2.2 t_length t_bytes) none := by
  refine std_v (own := RX9) (by decide +kernel) rfl (Nat.le_of_ble_eq_true rfl) ?_
  intro p e s m args below meth c Q X ret H locs hP hS ls hl
  have hx := X.1
  have hb := X.2.1
  have hl : lv_has ls 1 [(0, .ref a0)] := hl
  have ret : ∀ {H : Heap} {locs : List Loc} {pc : Nat} {ls : Array Slot} {x_width : Int32} {x_guard : Int32} {x_stages : Int32} {x_fold : Int32} {x_pipe : Bool} {x_near : Bool} {s_at : Int32}, some (x_width, x_guard, x_stages, x_fold, x_pipe, x_near, s_at) = some o → WP g A (wUText g a0 a1 a2 a3 x_width x_guard x_stages x_fold x_pipe x_near s_at t_length t_bytes) H → va_S A s.heap H locs → decode cX9_forget pc = .ok (.return_, 1) → W p l e rm_X9_forget s m args below meth c H locs 0 0 Q (F0 m pc ls []) := by
    intro H locs pc ls x_width x_guard x_stages x_fold x_pipe x_near s_at h hP hS hd
    cases h
    exact ret hP hS hd
  unfold f_X9_forget at h
  refine lv_aload_n hx hb dX9_forget_0 rfl (lv_at hl 0 rfl) ?_
  refine gf_X9_14_UText_0 X hP dX9_forget_1 ?_
  refine lv_iconst (v := 0) hx hb dX9_forget_4 rfl ?_
  refine pf_X9_44_UText_1 (v0 := (0 : Int32)) X hP hS dX9_forget_5 (fun H locs hP hS => ?_)
  refine lv_aload_n hx hb dX9_forget_8 rfl (lv_at hl 0 rfl) ?_
  refine lv_iconst (v := (-1)) hx hb dX9_forget_9 rfl ?_
  refine pf_X9_34_UText_0 (v0 := (-1 : Int32)) X hP hS dX9_forget_10 (fun H locs hP hS => ?_)
  refine lv_aload_n hx hb dX9_forget_13 rfl (lv_at hl 0 rfl) ?_
  refine lv_iconst (v := (-1)) hx hb dX9_forget_14 rfl ?_
  refine pf_X9_47_UText_0 (v0 := (-1 : Int32)) X hP hS dX9_forget_15 (fun H locs hP hS => ?_)
  refine lv_aload_n hx hb dX9_forget_18 rfl (lv_at hl 0 rfl) ?_
  refine lv_iconst (v := (-1)) hx hb dX9_forget_19 rfl ?_
  refine pf_X9_38_UText_0 (v0 := (-1 : Int32)) X hP hS dX9_forget_20 (fun H locs hP hS => ?_)
  refine lv_aload_n hx hb dX9_forget_23 rfl (lv_at hl 0 rfl) ?_
  refine lv_iconst (v := (-1)) hx hb dX9_forget_24 rfl ?_
  refine pf_X9_50_UText_0 (v0 := (-1 : Int32)) X hP hS dX9_forget_25 (fun H locs hP hS => ?_)
  refine lv_aload_n hx hb dX9_forget_28 rfl (lv_at hl 0 rfl) ?_
  refine lv_iconst (v := 0) hx hb dX9_forget_29 rfl ?_
  refine pf_X9_53_UText_0 (v0 := false) X hP hS dX9_forget_30 (fun H locs hP hS => ?_)
  refine lv_aload_n hx hb dX9_forget_33 rfl (lv_at hl 0 rfl) ?_
  refine lv_iconst (v := 0) hx hb dX9_forget_34 rfl ?_
  refine pf_X9_57_UText_0 (v0 := false) X hP hS dX9_forget_35 (fun H locs hP hS => ?_)
  exact ret h hP hS dX9_forget_38
abbrev rm_X9_mayCome : Room := { frames := 1, cells := 0, slots := 0, locals := 20 }
set_option maxRecDepth 100000 in
set_option maxHeartbeats 4000000 in
theorem c_X9_mayCome {g : gT} {l : Launch} {A : Nat → Prop} {a0 a1 a2 a3 : Nat} {x_width : Int32} {x_guard : Int32} {x_stages : Int32} {x_fold : Int32} {x_pipe : Bool} {x_near : Bool} {s_at : Int32} {t_length : Int32} {t_bytes : Nat → Int32} {pi : Nat} {o : Bool} (hpi : pi < 6) (h : f_X9_mayCome pi x_width x_guard x_stages x_fold x_pipe x_near = some o) : Std g l yX9_mayCome (.code yX9_mayCome cX9_mayCome 2 (some .boolean) :: gw) rm_X9_mayCome A [.ref a0, .ref (g.2 (40 + pi))] (wUText g a0 a1 a2 a3 x_width x_guard x_stages x_fold x_pipe x_near s_at t_length t_bytes) (wUText g a0 a1 a2 a3 x_width x_guard x_stages x_fold x_pipe x_near s_at t_length t_bytes) (some (.int (bI o))) := by
  refine std_z (own := RX9) (by decide +kernel) rfl (Nat.le_of_ble_eq_true rfl) ?_
  intro p e s m args below meth c Q X ret H locs hP hS ls hl
  have hx := X.1
  have hb := X.2.1
  have hl : lv_has ls 2 [(0, .ref a0), (1, .ref (g.2 (40 + pi)))] := hl
  have ret : ∀ {H : Heap} {locs : List Loc} {pc : Nat} {ls : Array Slot} {v : Bool} , some (v) = some o → WP g A (wUText g a0 a1 a2 a3 x_width x_guard x_stages x_fold x_pipe x_near s_at t_length t_bytes) H → va_S A s.heap H locs → decode cX9_mayCome pc = .ok (.ireturn, 1) → W p l e rm_X9_mayCome s m args below meth c H locs 0 0 Q (F0 m pc ls [.int (bI v)]) := by
    intro H locs pc ls v h hP hS hd
    cases h
    exact ret hP hS hd
  unfold f_X9_mayCome at h
  refine sgO X hS (sfX X).2.2.2.1 wd_2_236 dX9_mayCome_0 ?_
  refine lv_aload_n hx hb dX9_mayCome_3 rfl (lv_at hl 1 rfl) ?_
  refine ord_row (E := "TurnShifts$Piece") (rest := [.ref (g.2 8)]) X hl.1 hS ((sfX X).2.2.2.2.2.2.2.2.2.2.2.2.2.1 _ hpi).1 ((sfX X).2.2.2.2.2.2.2.2.2.2.2.2.2.1 _ hpi).2.1 wd_2_238 wd_2_239 wd_3_1 (Nat.le_of_ble_eq_true rfl) (Nat.le_of_ble_eq_true rfl) dX9_mayCome_4 (Nat.le_of_ble_eq_true rfl) ?_
  refine W.eq (g2 := F0 m 7 ls [.int (Int32.ofNat pi), .ref (g.2 8)]) rfl ?_
  obtain ⟨hi7, h⟩ := gv_of h
  refine sti X hS (sfX X).2.2.2.2.2.2.2.2.2.2.1 hi7 dX9_mayCome_7 ?_
  refine W.eq (g2 := F0 m 8 ls [.int (swP ((Int32.ofNat pi)).toNatClampNeg)]) rfl ?_
  by_cases c8_1 : (swP ((Int32.ofNat pi)).toNatClampNeg) = 1
  · have h := br_p c8_1 h
    refine lv_tableIn (off := 32) (tgt := 40) hx hb dX9_mayCome_8 (by rw [c8_1]; decide) (by rw [c8_1]; decide) (by rw [c8_1]; rfl) rfl ?_
    refine lv_aload_n hx hb dX9_mayCome_40 rfl (lv_at hl 0 rfl) ?_
    refine gf_X9_34_UText_0 X hP dX9_mayCome_41 ?_
    refine lv_iconst (v := (-1)) hx hb dX9_mayCome_44 rfl ?_
    refine jx1 h (P := fun (v1 : Bool) => ∀ ls : Array Slot, lv_has ls 2 [] → W p l e rm_X9_mayCome s m args below meth c H locs 0 0 Q (F0 m 53 ls [.int (bI v1)])) ?_ ?_
    · intro v1 h ls hl
      exact ret h hP hS dX9_mayCome_53
    · intro J h
      refine lv_icmp_ne (tgt := 52) hx hb dX9_mayCome_45 rfl (fun c45 => ?_) (fun c45 => ?_)
      · refine lv_iconst (v := 0) hx hb dX9_mayCome_52 rfl ?_
        exact J _ (lt_in c45 h) ls (lv_sub hl [] rfl)
      · refine lv_iconst (v := 1) hx hb dX9_mayCome_48 rfl ?_
        refine lv_goto (tgt := 53) hx hb dX9_mayCome_49 rfl ?_
        exact J _ (lt_ip c45 h) ls (lv_sub hl [] rfl)
  have h := br_n c8_1 h
  by_cases c8_2 : (swP ((Int32.ofNat pi)).toNatClampNeg) = 2
  · have h := br_p c8_2 h
    refine lv_tableIn (off := 46) (tgt := 54) hx hb dX9_mayCome_8 (by rw [c8_2]; decide) (by rw [c8_2]; decide) (by rw [c8_2]; rfl) rfl ?_
    refine lv_aload_n hx hb dX9_mayCome_54 rfl (lv_at hl 0 rfl) ?_
    refine gf_X9_47_UText_0 X hP dX9_mayCome_55 ?_
    refine lv_iconst (v := (-1)) hx hb dX9_mayCome_58 rfl ?_
    refine jx1 h (P := fun (v2 : Bool) => ∀ ls : Array Slot, lv_has ls 2 [] → W p l e rm_X9_mayCome s m args below meth c H locs 0 0 Q (F0 m 67 ls [.int (bI v2)])) ?_ ?_
    · intro v2 h ls hl
      exact ret h hP hS dX9_mayCome_67
    · intro J h
      refine lv_icmp_ne (tgt := 66) hx hb dX9_mayCome_59 rfl (fun c59 => ?_) (fun c59 => ?_)
      · refine lv_iconst (v := 0) hx hb dX9_mayCome_66 rfl ?_
        exact J _ (lt_in c59 h) ls (lv_sub hl [] rfl)
      · refine lv_iconst (v := 1) hx hb dX9_mayCome_62 rfl ?_
        refine lv_goto (tgt := 67) hx hb dX9_mayCome_63 rfl ?_
        exact J _ (lt_ip c59 h) ls (lv_sub hl [] rfl)
  have h := br_n c8_2 h
  by_cases c8_3 : (swP ((Int32.ofNat pi)).toNatClampNeg) = 3
  · have h := br_p c8_3 h
    refine lv_tableIn (off := 60) (tgt := 68) hx hb dX9_mayCome_8 (by rw [c8_3]; decide) (by rw [c8_3]; decide) (by rw [c8_3]; rfl) rfl ?_
    refine lv_aload_n hx hb dX9_mayCome_68 rfl (lv_at hl 0 rfl) ?_
    refine gf_X9_38_UText_0 X hP dX9_mayCome_69 ?_
    refine lv_iconst (v := (-1)) hx hb dX9_mayCome_72 rfl ?_
    refine jx1 h (P := fun (v3 : Bool) => ∀ ls : Array Slot, lv_has ls 2 [] → W p l e rm_X9_mayCome s m args below meth c H locs 0 0 Q (F0 m 81 ls [.int (bI v3)])) ?_ ?_
    · intro v3 h ls hl
      exact ret h hP hS dX9_mayCome_81
    · intro J h
      refine lv_icmp_ne (tgt := 80) hx hb dX9_mayCome_73 rfl (fun c73 => ?_) (fun c73 => ?_)
      · refine lv_iconst (v := 0) hx hb dX9_mayCome_80 rfl ?_
        exact J _ (lt_in c73 h) ls (lv_sub hl [] rfl)
      · refine lv_iconst (v := 1) hx hb dX9_mayCome_76 rfl ?_
        refine lv_goto (tgt := 81) hx hb dX9_mayCome_77 rfl ?_
        exact J _ (lt_ip c73 h) ls (lv_sub hl [] rfl)
  have h := br_n c8_3 h
  by_cases c8_4 : (swP ((Int32.ofNat pi)).toNatClampNeg) = 4
  · have h := br_p c8_4 h
    refine lv_tableIn (off := 74) (tgt := 82) hx hb dX9_mayCome_8 (by rw [c8_4]; decide) (by rw [c8_4]; decide) (by rw [c8_4]; rfl) rfl ?_
    refine lv_aload_n hx hb dX9_mayCome_82 rfl (lv_at hl 0 rfl) ?_
    refine gf_X9_57_UText_0 X hP dX9_mayCome_83 ?_
    refine jx1 h (P := fun (v4 : Bool) => ∀ ls : Array Slot, lv_has ls 2 [] → W p l e rm_X9_mayCome s m args below meth c H locs 0 0 Q (F0 m 94 ls [.int (bI v4)])) ?_ ?_
    · intro v4 h ls hl
      exact ret h hP hS dX9_mayCome_94
    · intro J h
      refine rb_ne (tgt := 93) hx hb dX9_mayCome_86 rfl (fun c86 => ?_) (fun c86 => ?_)
      · refine lv_iconst (v := 0) hx hb dX9_mayCome_93 rfl ?_
        exact J _ (lt_ip c86 h) ls (lv_sub hl [] rfl)
      · refine lv_iconst (v := 1) hx hb dX9_mayCome_89 rfl ?_
        refine lv_goto (tgt := 94) hx hb dX9_mayCome_90 rfl ?_
        exact J _ (lt_in c86 h) ls (lv_sub hl [] rfl)
  have h := br_n c8_4 h
  refine lv_tableOut (tgt := 95) hx hb dX9_mayCome_8 (by have := lv_neT (a := 1) c8_1 rfl; have := lv_neT (a := 2) c8_2 rfl; have := lv_neT (a := 3) c8_3 rfl; have := lv_neT (a := 4) c8_4 rfl; omega) rfl ?_
  refine lv_aload_n hx hb dX9_mayCome_95 rfl (lv_at hl 0 rfl) ?_
  refine gf_X9_53_UText_0 X hP dX9_mayCome_96 ?_
  refine jx1 h (P := fun (v5 : Bool) => ∀ ls : Array Slot, lv_has ls 2 [] → W p l e rm_X9_mayCome s m args below meth c H locs 0 0 Q (F0 m 115 ls [.int (bI v5)])) ?_ ?_
  · intro v5 h ls hl
    exact ret h hP hS dX9_mayCome_115
  · intro J h
    refine rb_ne (tgt := 114) hx hb dX9_mayCome_99 rfl (fun c99 => ?_) (fun c99 => ?_)
    · refine lv_iconst (v := 0) hx hb dX9_mayCome_114 rfl ?_
      exact J _ (lt_ip c99 h) ls (lv_sub hl [] rfl)
    · refine lv_aload_n hx hb dX9_mayCome_102 rfl (lv_at hl 0 rfl) ?_
      refine gf_X9_50_UText_0 X hP dX9_mayCome_103 ?_
      refine lv_iconst (v := (-1)) hx hb dX9_mayCome_106 rfl ?_
      refine lv_icmp_ne (tgt := 114) hx hb dX9_mayCome_107 rfl (fun c107 => ?_) (fun c107 => ?_)
      · refine lv_iconst (v := 0) hx hb dX9_mayCome_114 rfl ?_
        exact J _ (lt_in c107 (lt_in c99 h)) ls (lv_sub hl [] rfl)
      · refine lv_iconst (v := 1) hx hb dX9_mayCome_110 rfl ?_
        refine lv_goto (tgt := 115) hx hb dX9_mayCome_111 rfl ?_
        exact J _ (lt_ip c107 (lt_in c99 h)) ls (lv_sub hl [] rfl)
abbrev rm_X9_take : Room := { frames := 1, cells := 0, slots := 0, locals := 20 }
set_option maxRecDepth 100000 in
set_option maxHeartbeats 4000000 in
theorem c_X9_take {g : gT} {l : Launch} {A : Nat → Prop} {a0 a1 a2 a3 : Nat} {x_width : Int32} {x_guard : Int32} {x_stages : Int32} {x_fold : Int32} {x_pipe : Bool} {x_near : Bool} {s_at : Int32} {t_length : Int32} {t_bytes : Nat → Int32} {pi : Nat} {p1 : Int32} {o : Int32 × Int32 × Int32 × Int32 × Bool × Bool} (hpi : pi < 6) (h : f_X9_take pi p1 x_width x_guard x_stages x_fold x_pipe x_near = some o) : Std g l yX9_take (.code yX9_take cX9_take 3 none :: gw) rm_X9_take A [.ref a0, .ref (g.2 (40 + pi)), .int p1] (wUText g a0 a1 a2 a3 x_width x_guard x_stages x_fold x_pipe x_near s_at t_length t_bytes) (wUText g a0 a1 a2 a3 o.1 o.2.1 o.2.2.1 o.2.2.2.1 o.2.2.2.2.1 o.2.2.2.2.2 s_at t_length t_bytes) none := by
  refine std_v (own := RX9) (by decide +kernel) rfl (Nat.le_of_ble_eq_true rfl) ?_
  intro p e s m args below meth c Q X ret H locs hP hS ls hl
  have hx := X.1
  have hb := X.2.1
  have hl : lv_has ls 3 [(0, .ref a0), (1, .ref (g.2 (40 + pi))), (2, .int p1)] := hl
  have ret : ∀ {H : Heap} {locs : List Loc} {pc : Nat} {ls : Array Slot} {x_width : Int32} {x_guard : Int32} {x_stages : Int32} {x_fold : Int32} {x_pipe : Bool} {x_near : Bool}, some (x_width, x_guard, x_stages, x_fold, x_pipe, x_near) = some o → WP g A (wUText g a0 a1 a2 a3 x_width x_guard x_stages x_fold x_pipe x_near s_at t_length t_bytes) H → va_S A s.heap H locs → decode cX9_take pc = .ok (.return_, 1) → W p l e rm_X9_take s m args below meth c H locs 0 0 Q (F0 m pc ls []) := by
    intro H locs pc ls x_width x_guard x_stages x_fold x_pipe x_near h hP hS hd
    cases h
    exact ret hP hS hd
  have b88 : ∀ (x_width : Int32) (x_guard : Int32) (x_stages : Int32) (x_fold : Int32) (x_pipe : Bool) (x_near : Bool) (H : Heap) (locs : List Loc) (ls : Array Slot), f_X9_take_b88 pi   x_width x_guard x_stages x_fold x_pipe x_near = some o → WP g A (wUText g a0 a1 a2 a3 x_width x_guard x_stages x_fold x_pipe x_near s_at t_length t_bytes) H → va_S A s.heap H locs → lv_has ls 3 [(0, .ref a0)] → W p l e rm_X9_take s m args below meth c H locs 0 0 Q (F0 m 88 ls []) := by
    intro  x_width x_guard x_stages x_fold x_pipe x_near H locs ls h hP hS hl
    unfold f_X9_take_b88 at h
    refine lv_aload_n hx hb dX9_take_88 rfl (lv_at hl 0 rfl) ?_
    refine lv_iconst (v := 1) hx hb dX9_take_89 rfl ?_
    refine pf_X9_57_UText_0 (v0 := true) X hP hS dX9_take_90 (fun H locs hP hS => ?_)
    exact ret h hP hS dX9_take_93
  unfold f_X9_take at h
  refine sgO X hS (sfX X).2.2.2.1 wd_2_236 dX9_take_0 ?_
  refine lv_aload_n hx hb dX9_take_3 rfl (lv_at hl 1 rfl) ?_
  refine ord_row (E := "TurnShifts$Piece") (rest := [.ref (g.2 8)]) X hl.1 hS ((sfX X).2.2.2.2.2.2.2.2.2.2.2.2.2.1 _ hpi).1 ((sfX X).2.2.2.2.2.2.2.2.2.2.2.2.2.1 _ hpi).2.1 wd_2_238 wd_2_239 wd_3_1 (Nat.le_of_ble_eq_true rfl) (Nat.le_of_ble_eq_true rfl) dX9_take_4 (Nat.le_of_ble_eq_true rfl) ?_
  refine W.eq (g2 := F0 m 7 ls [.int (Int32.ofNat pi), .ref (g.2 8)]) rfl ?_
  obtain ⟨hi7, h⟩ := gv_of h
  refine sti X hS (sfX X).2.2.2.2.2.2.2.2.2.2.1 hi7 dX9_take_7 ?_
  refine W.eq (g2 := F0 m 8 ls [.int (swP ((Int32.ofNat pi)).toNatClampNeg)]) rfl ?_
  by_cases c8_1 : (swP ((Int32.ofNat pi)).toNatClampNeg) = 1
  · have h := br_p c8_1 h
    refine lv_tableIn (off := 40) (tgt := 48) hx hb dX9_take_8 (by rw [c8_1]; decide) (by rw [c8_1]; decide) (by rw [c8_1]; rfl) rfl ?_
    refine lv_aload_n hx hb dX9_take_48 rfl (lv_at hl 0 rfl) ?_
    refine lv_iload_n hx hb dX9_take_49 rfl (lv_at hl 2 rfl) ?_
    refine pf_X9_34_UText_0 (v0 := p1) X hP hS dX9_take_50 (fun H locs hP hS => ?_)
    refine lv_goto (tgt := 93) hx hb dX9_take_53 rfl ?_
    exact ret h hP hS dX9_take_93
  have h := br_n c8_1 h
  by_cases c8_2 : (swP ((Int32.ofNat pi)).toNatClampNeg) = 2
  · have h := br_p c8_2 h
    refine lv_tableIn (off := 48) (tgt := 56) hx hb dX9_take_8 (by rw [c8_2]; decide) (by rw [c8_2]; decide) (by rw [c8_2]; rfl) rfl ?_
    refine lv_aload_n hx hb dX9_take_56 rfl (lv_at hl 0 rfl) ?_
    refine lv_iload_n hx hb dX9_take_57 rfl (lv_at hl 2 rfl) ?_
    refine pf_X9_47_UText_0 (v0 := p1) X hP hS dX9_take_58 (fun H locs hP hS => ?_)
    refine lv_goto (tgt := 93) hx hb dX9_take_61 rfl ?_
    exact ret h hP hS dX9_take_93
  have h := br_n c8_2 h
  by_cases c8_3 : (swP ((Int32.ofNat pi)).toNatClampNeg) = 3
  · have h := br_p c8_3 h
    refine lv_tableIn (off := 56) (tgt := 64) hx hb dX9_take_8 (by rw [c8_3]; decide) (by rw [c8_3]; decide) (by rw [c8_3]; rfl) rfl ?_
    refine lv_aload_n hx hb dX9_take_64 rfl (lv_at hl 0 rfl) ?_
    refine lv_iload_n hx hb dX9_take_65 rfl (lv_at hl 2 rfl) ?_
    refine pf_X9_38_UText_0 (v0 := p1) X hP hS dX9_take_66 (fun H locs hP hS => ?_)
    refine lv_goto (tgt := 93) hx hb dX9_take_69 rfl ?_
    exact ret h hP hS dX9_take_93
  have h := br_n c8_3 h
  by_cases c8_4 : (swP ((Int32.ofNat pi)).toNatClampNeg) = 4
  · have h := br_p c8_4 h
    refine lv_tableIn (off := 80) (tgt := 88) hx hb dX9_take_8 (by rw [c8_4]; decide) (by rw [c8_4]; decide) (by rw [c8_4]; rfl) rfl ?_
    exact b88   x_width x_guard x_stages x_fold x_pipe x_near _ _ _ h hP hS (lv_sub hl [0] rfl)
  have h := br_n c8_4 h
  by_cases c8_5 : (swP ((Int32.ofNat pi)).toNatClampNeg) = 5
  · have h := br_p c8_5 h
    refine lv_tableIn (off := 64) (tgt := 72) hx hb dX9_take_8 (by rw [c8_5]; decide) (by rw [c8_5]; decide) (by rw [c8_5]; rfl) rfl ?_
    refine lv_aload_n hx hb dX9_take_72 rfl (lv_at hl 0 rfl) ?_
    refine lv_iconst (v := 1) hx hb dX9_take_73 rfl ?_
    refine pf_X9_53_UText_0 (v0 := true) X hP hS dX9_take_74 (fun H locs hP hS => ?_)
    refine lv_goto (tgt := 93) hx hb dX9_take_77 rfl ?_
    exact ret h hP hS dX9_take_93
  have h := br_n c8_5 h
  by_cases c8_6 : (swP ((Int32.ofNat pi)).toNatClampNeg) = 6
  · have h := br_p c8_6 h
    refine lv_tableIn (off := 72) (tgt := 80) hx hb dX9_take_8 (by rw [c8_6]; decide) (by rw [c8_6]; decide) (by rw [c8_6]; rfl) rfl ?_
    refine lv_aload_n hx hb dX9_take_80 rfl (lv_at hl 0 rfl) ?_
    refine lv_iload_n hx hb dX9_take_81 rfl (lv_at hl 2 rfl) ?_
    refine pf_X9_50_UText_0 (v0 := p1) X hP hS dX9_take_82 (fun H locs hP hS => ?_)
    refine lv_goto (tgt := 93) hx hb dX9_take_85 rfl ?_
    exact ret h hP hS dX9_take_93
  have h := br_n c8_6 h
  refine lv_tableOut (tgt := 88) hx hb dX9_take_8 (by have := lv_neT (a := 1) c8_1 rfl; have := lv_neT (a := 2) c8_2 rfl; have := lv_neT (a := 3) c8_3 rfl; have := lv_neT (a := 4) c8_4 rfl; have := lv_neT (a := 5) c8_5 rfl; have := lv_neT (a := 6) c8_6 rfl; omega) rfl ?_
  exact b88   x_width x_guard x_stages x_fold x_pipe x_near _ _ _ h hP hS (lv_sub hl [0] rfl)
abbrev rm_X9_readRest : Room := { frames := 3, cells := 0, slots := 0, locals := 60 }
set_option maxRecDepth 100000 in
set_option maxHeartbeats 4000000 in
theorem c_X9_readRest {g : gT} {l : Launch} {A : Nat → Prop} {a0 a1 a2 a3 : Nat} {x_width : Int32} {x_guard : Int32} {x_stages : Int32} {x_fold : Int32} {x_pipe : Bool} {x_near : Bool} {s_at : Int32} {t_length : Int32} {t_bytes : Nat → Int32} {pi : Nat} {o : Int32 × Int32 × Int32 × Int32 × Int32 × Bool × Bool × Int32} (hpi : pi < 6) (h : f_X9_readRest pi x_width x_guard x_stages x_fold x_pipe x_near s_at t_length t_bytes = some o) : Std g l yX9_readRest (.code yX9_readRest cX9_readRest 5 (some .int) :: gw) rm_X9_readRest A [.ref a0, .ref (g.2 (40 + pi))] (wUText g a0 a1 a2 a3 x_width x_guard x_stages x_fold x_pipe x_near s_at t_length t_bytes) (wUText g a0 a1 a2 a3 o.2.1 o.2.2.1 o.2.2.2.1 o.2.2.2.2.1 o.2.2.2.2.2.1 o.2.2.2.2.2.2.1 o.2.2.2.2.2.2.2 t_length t_bytes) (some (.int o.1)) := by
  refine std_i (own := RX9) (by decide +kernel) rfl (Nat.le_of_ble_eq_true rfl) ?_
  intro p e s m args below meth c Q X ret H locs hP hS ls hl
  have hx := X.1
  have hb := X.2.1
  have hl : lv_has ls 5 [(0, .ref a0), (1, .ref (g.2 (40 + pi)))] := hl
  have ret : ∀ {H : Heap} {locs : List Loc} {pc : Nat} {ls : Array Slot} {v : Int32} {x_width : Int32} {x_guard : Int32} {x_stages : Int32} {x_fold : Int32} {x_pipe : Bool} {x_near : Bool} {s_at : Int32}, some (v, x_width, x_guard, x_stages, x_fold, x_pipe, x_near, s_at) = some o → WP g A (wUText g a0 a1 a2 a3 x_width x_guard x_stages x_fold x_pipe x_near s_at t_length t_bytes) H → va_S A s.heap H locs → decode cX9_readRest pc = .ok (.ireturn, 1) → W p l e rm_X9_readRest s m args below meth c H locs 0 0 Q (F0 m pc ls [.int v]) := by
    intro H locs pc ls v x_width x_guard x_stages x_fold x_pipe x_near s_at h hP hS hd
    cases h
    exact ret hP hS hd
  have b57 : ∀ (x2 : Int32) (x_width : Int32) (x_guard : Int32) (x_stages : Int32) (x_fold : Int32) (x_pipe : Bool) (x_near : Bool) (s_at : Int32) (H : Heap) (locs : List Loc) (ls : Array Slot), f_X9_readRest_b57 pi t_length t_bytes  x2 x_width x_guard x_stages x_fold x_pipe x_near s_at = some o → WP g A (wUText g a0 a1 a2 a3 x_width x_guard x_stages x_fold x_pipe x_near s_at t_length t_bytes) H → va_S A s.heap H locs → lv_has ls 5 [(2, .int x2)] → W p l e rm_X9_readRest s m args below meth c H locs 0 0 Q (F0 m 57 ls []) := by
    intro  x2 x_width x_guard x_stages x_fold x_pipe x_near s_at H locs ls h hP hS hl
    unfold f_X9_readRest_b57 at h
    refine lv_iload_n hx hb dX9_readRest_57 rfl (lv_at hl 0 rfl) ?_
    exact ret h hP hS dX9_readRest_58
  have b87 : ∀ (x2 : Int32) (x_width : Int32) (x_guard : Int32) (x_stages : Int32) (x_fold : Int32) (x_pipe : Bool) (x_near : Bool) (s_at : Int32) (H : Heap) (locs : List Loc) (ls : Array Slot), f_X9_readRest_b87 pi t_length t_bytes  x2 x_width x_guard x_stages x_fold x_pipe x_near s_at = some o → WP g A (wUText g a0 a1 a2 a3 x_width x_guard x_stages x_fold x_pipe x_near s_at t_length t_bytes) H → va_S A s.heap H locs → lv_has ls 5 [(2, .int x2)] → W p l e rm_X9_readRest s m args below meth c H locs 0 0 Q (F0 m 87 ls []) := by
    intro  x2 x_width x_guard x_stages x_fold x_pipe x_near s_at H locs ls h hP hS hl
    unfold f_X9_readRest_b87 at h
    refine lv_iload_n hx hb dX9_readRest_87 rfl (lv_at hl 0 rfl) ?_
    exact ret h hP hS dX9_readRest_88
  unfold f_X9_readRest at h
  refine lv_aload_n hx hb dX9_readRest_0 rfl (lv_at hl 1 rfl) ?_
  refine ofN X hS ((sfX X).2.2.2.2.2.2.2.2.2.2.2.2.2.1 _ hpi).2.2.2.2 wd_7_226 dX9_readRest_1 ?_
  refine lv_if_ne (tgt := 15) hx hb dX9_readRest_4 rfl (fun c4 => ?_) (fun c4 => ?_)
  · have h := br_n c4 h
    refine lv_aload_n hx hb dX9_readRest_15 rfl (lv_at hl 0 rfl) ?_
    refine gf_X9_14_UText_0 X hP dX9_readRest_16 ?_
    obtain ⟨o1, hco1, h⟩ := bd_of h
    obtain ⟨hF, hFA⟩ := fo_UText_Scan_1 hP
    refine kVN (rest := []) X dX9_readRest_19 wd_2_162 mw_X5_skipBlanks wd_2_164 wp_1_11 hF (k0 := 0) rfl rfl rfl hS hFA (c_X5_skipBlanks hco1) rfl hl.1 rfl (Nat.le_of_ble_eq_true rfl) rfl rfl ⟨Nat.le_of_ble_eq_true rfl, Nat.le_of_ble_eq_true rfl⟩ (fun H locs hF1 _ hk hS => ?_)
    have hP := un_UText_Scan_1 hP hk hF1
    refine W.eq (g2 := F0 m 22 ls []) rfl ?_
    refine lv_aload_n hx hb dX9_readRest_22 rfl (lv_at hl 0 rfl) ?_
    refine gf_X9_14_UText_0 X hP dX9_readRest_23 ?_
    refine gf_X9_44_UText_1 X hP dX9_readRest_26 ?_
    refine lv_istore_n (lv' := [(2, .int o1), (0, .ref a0), (1, .ref (g.2 (40 + pi)))]) hx hb dX9_readRest_29 rfl hl (by decide) rfl (fun ls hl => ?_)
    refine lv_aload_n hx hb dX9_readRest_30 rfl (lv_at hl 1 rfl) ?_
    refine gf_X9_14_UText_0 X hP dX9_readRest_31 ?_
    obtain ⟨o2, hco2, h⟩ := bd_of h
    obtain ⟨hF, hFA⟩ := fo_UText_Scan_1 hP
    refine kVN (rest := []) X dX9_readRest_34 wd_3_12 mw_X5_passDigits wd_3_14 wp_2_3 hF (k0 := 0) rfl rfl rfl hS hFA (c_X5_passDigits hco2) rfl hl.1 rfl (Nat.le_of_ble_eq_true rfl) rfl rfl ⟨Nat.le_of_ble_eq_true rfl, Nat.le_of_ble_eq_true rfl⟩ (fun H locs hF1 _ hk hS => ?_)
    have hP := un_UText_Scan_1 hP hk hF1
    refine W.eq (g2 := F0 m 37 ls []) rfl ?_
    refine lv_aload_n hx hb dX9_readRest_37 rfl (lv_at hl 1 rfl) ?_
    refine gf_X9_14_UText_0 X hP dX9_readRest_38 ?_
    refine gf_X9_44_UText_1 X hP dX9_readRest_41 ?_
    refine lv_iload_n hx hb dX9_readRest_44 rfl (lv_at hl 0 rfl) ?_
    refine lv_isub hx hb dX9_readRest_45 ?_
    refine lv_topi (fun v3 ev3 => ?_)
    have h := lt_at ev3 h
    refine lv_istore_n (lv' := [(3, .int v3), (2, .int o1), (0, .ref a0), (1, .ref (g.2 (40 + pi)))]) hx hb dX9_readRest_46 rfl hl (by decide) rfl (fun ls hl => ?_)
    refine lv_iload_n hx hb dX9_readRest_47 rfl (lv_at hl 0 rfl) ?_
    refine lv_iconst (v := 1) hx hb dX9_readRest_48 rfl ?_
    refine lv_icmp_lt (tgt := 57) hx hb dX9_readRest_49 rfl (fun c49 => ?_) (fun c49 => ?_)
    · have h := br_p c49 h
      exact b57   o1 x_width x_guard x_stages x_fold x_pipe x_near o2 _ _ _ h hP hS (lv_sub hl [1] rfl)
    · have h := br_n c49 h
      refine lv_iload_n hx hb dX9_readRest_52 rfl (lv_at hl 0 rfl) ?_
      refine lv_iconst (v := 2) hx hb dX9_readRest_53 rfl ?_
      refine lv_icmp_le (tgt := 59) hx hb dX9_readRest_54 rfl (fun c54 => ?_) (fun c54 => ?_)
      · have h := br_p c54 h
        refine lv_aload_n hx hb dX9_readRest_59 rfl (lv_at hl 2 rfl) ?_
        refine gf_X9_14_UText_0 X hP dX9_readRest_60 ?_
        refine lv_iload_n hx hb dX9_readRest_63 rfl (lv_at hl 1 rfl) ?_
        obtain ⟨o4, hco4, h⟩ := bd_of h
        obtain ⟨hF, hFA⟩ := fo_UText_Scan_1 hP
        refine kVN (rest := []) X dX9_readRest_64 wd_3_20 mw_X5_number wd_3_22 wp_2_5 hF (k0 := 0) rfl rfl rfl hS hFA (c_X5_number hco4) rfl hl.1 rfl (Nat.le_of_ble_eq_true rfl) rfl rfl ⟨Nat.le_of_ble_eq_true rfl, Nat.le_of_ble_eq_true rfl⟩ (fun H locs hF1 _ hk hS => ?_)
        have hP := un_UText_Scan_1 hP hk hF1
        refine W.eq (g2 := F0 m 67 ls [.int o4]) rfl ?_
        refine lv_istore (lv' := [(4, .int o4), (3, .int v3), (2, .int o1), (0, .ref a0), (1, .ref (g.2 (40 + pi)))]) hx hb dX9_readRest_67 hl (by decide) rfl (fun ls hl => ?_)
        refine lv_iload hx hb dX9_readRest_69 (lv_at hl 0 rfl) ?_
        refine lv_aload_n hx hb dX9_readRest_71 rfl (lv_at hl 4 rfl) ?_
        refine ofN X hS ((sfX X).2.2.2.2.2.2.2.2.2.2.2.2.2.1 _ hpi).2.2.2.1 wd_7_227 dX9_readRest_72 ?_
        refine lv_icmp_lt (tgt := 87) hx hb dX9_readRest_75 rfl (fun c75 => ?_) (fun c75 => ?_)
        · have h := br_p c75 h
          exact b87   o1 x_width x_guard x_stages x_fold x_pipe x_near o2 _ _ _ h hP hS (lv_sub hl [2] rfl)
        · have h := br_n c75 h
          refine lv_iload hx hb dX9_readRest_78 (lv_at hl 0 rfl) ?_
          refine lv_aload_n hx hb dX9_readRest_80 rfl (lv_at hl 4 rfl) ?_
          refine ofN X hS ((sfX X).2.2.2.2.2.2.2.2.2.2.2.2.2.1 _ hpi).2.2.2.2 wd_7_226 dX9_readRest_81 ?_
          refine lv_icmp_le (tgt := 89) hx hb dX9_readRest_84 rfl (fun c84 => ?_) (fun c84 => ?_)
          · have h := br_p c84 h
            refine lv_aload_n hx hb dX9_readRest_89 rfl (lv_at hl 3 rfl) ?_
            refine lv_aload_n hx hb dX9_readRest_90 rfl (lv_at hl 4 rfl) ?_
            refine lv_iload hx hb dX9_readRest_91 (lv_at hl 0 rfl) ?_
            obtain ⟨o5, hco5, h⟩ := bd_of h
            refine kV (rest := []) X dX9_readRest_93 wd_3_8 mw_X9_take wd_3_10 wp_2_2 hP (k0 := 0) rfl rfl rfl hS (fun _ z => z) (c_X9_take hpi hco5) rfl hl.1 rfl (Nat.le_of_ble_eq_true rfl) rfl rfl ⟨Nat.le_of_ble_eq_true rfl, Nat.le_of_ble_eq_true rfl⟩ (fun H locs hP _ _ hS => ?_)
            refine W.eq (g2 := F0 m 96 ls []) rfl ?_
            refine lv_iconst (v := (-1)) hx hb dX9_readRest_96 rfl ?_
            exact ret h hP hS dX9_readRest_97
          · have h := br_n c84 h
            exact b87   o1 x_width x_guard x_stages x_fold x_pipe x_near o2 _ _ _ h hP hS (lv_sub hl [2] rfl)
      · have h := br_n c54 h
        exact b57   o1 x_width x_guard x_stages x_fold x_pipe x_near o2 _ _ _ h hP hS (lv_sub hl [1] rfl)
  · have h := br_p c4 h
    refine lv_aload_n hx hb dX9_readRest_7 rfl (lv_at hl 0 rfl) ?_
    refine lv_aload_n hx hb dX9_readRest_8 rfl (lv_at hl 1 rfl) ?_
    refine lv_iconst (v := 0) hx hb dX9_readRest_9 rfl ?_
    obtain ⟨o6, hco6, h⟩ := bd_of h
    refine kV (rest := []) X dX9_readRest_10 wd_3_8 mw_X9_take wd_3_10 wp_2_2 hP (k0 := 0) rfl rfl rfl hS (fun _ z => z) (c_X9_take hpi hco6) rfl hl.1 rfl (Nat.le_of_ble_eq_true rfl) rfl rfl ⟨Nat.le_of_ble_eq_true rfl, Nat.le_of_ble_eq_true rfl⟩ (fun H locs hP _ _ hS => ?_)
    refine W.eq (g2 := F0 m 13 ls []) rfl ?_
    refine lv_iconst (v := (-1)) hx hb dX9_readRest_13 rfl ?_
    exact ret h hP hS dX9_readRest_14
abbrev rm_X9_readPiece : Room := { frames := 5, cells := 0, slots := 0, locals := 113 }
set_option maxRecDepth 100000 in
set_option maxHeartbeats 4000000 in
theorem c_X9_readPiece {g : gT} {l : Launch} {A : Nat → Prop} {a0 a1 a2 a3 : Nat} {x_width : Int32} {x_guard : Int32} {x_stages : Int32} {x_fold : Int32} {x_pipe : Bool} {x_near : Bool} {s_at : Int32} {t_length : Int32} {t_bytes : Nat → Int32}  {o : Int32 × Int32 × Int32 × Int32 × Int32 × Bool × Bool × Int32} (h : f_X9_readPiece  x_width x_guard x_stages x_fold x_pipe x_near s_at t_length t_bytes = some o) : Std g l yX9_readPiece (.code yX9_readPiece cX9_readPiece 3 (some .int) :: gw) rm_X9_readPiece A [.ref a0] (wUText g a0 a1 a2 a3 x_width x_guard x_stages x_fold x_pipe x_near s_at t_length t_bytes) (wUText g a0 a1 a2 a3 o.2.1 o.2.2.1 o.2.2.2.1 o.2.2.2.2.1 o.2.2.2.2.2.1 o.2.2.2.2.2.2.1 o.2.2.2.2.2.2.2 t_length t_bytes) (some (.int o.1)) := by
  refine std_i (own := RX9) (by decide +kernel) rfl (Nat.le_of_ble_eq_true rfl) ?_
  intro p e s m args below meth c Q X ret H locs hP hS ls hl
  have hx := X.1
  have hb := X.2.1
  have hl : lv_has ls 3 [(0, .ref a0)] := hl
  have ret : ∀ {H : Heap} {locs : List Loc} {pc : Nat} {ls : Array Slot} {v : Int32} {x_width : Int32} {x_guard : Int32} {x_stages : Int32} {x_fold : Int32} {x_pipe : Bool} {x_near : Bool} {s_at : Int32}, some (v, x_width, x_guard, x_stages, x_fold, x_pipe, x_near, s_at) = some o → WP g A (wUText g a0 a1 a2 a3 x_width x_guard x_stages x_fold x_pipe x_near s_at t_length t_bytes) H → va_S A s.heap H locs → decode cX9_readPiece pc = .ok (.ireturn, 1) → W p l e rm_X9_readPiece s m args below meth c H locs 0 0 Q (F0 m pc ls [.int v]) := by
    intro H locs pc ls v x_width x_guard x_stages x_fold x_pipe x_near s_at h hP hS hd
    cases h
    exact ret hP hS hd
  have l24 : ∀ (n : Nat), ∀ (x1 : Int32) (x2 : Int32) (x_width : Int32) (x_guard : Int32) (x_stages : Int32) (x_fold : Int32) (x_pipe : Bool) (x_near : Bool) (s_at : Int32) (H : Heap) (locs : List Loc) (ls : Array Slot), f_X9_readPiece_l24  t_length t_bytes  n x1 x2 x_width x_guard x_stages x_fold x_pipe x_near s_at = some o → WP g A (wUText g a0 a1 a2 a3 x_width x_guard x_stages x_fold x_pipe x_near s_at t_length t_bytes) H → va_S A s.heap H locs → lv_has ls 3 [(0, .ref a0), (1, .int x1), (2, .int x2)] → W p l e rm_X9_readPiece s m args below meth c H locs 0 0 Q (F0 m 24 ls []) := by
    intro  n
    induction n with
    | zero =>
      intro x1 x2 x_width x_guard x_stages x_fold x_pipe x_near s_at H locs ls h
      exact nz_of h
    | succ n ih =>
      intro x1 x2 x_width x_guard x_stages x_fold x_pipe x_near s_at H locs ls h hP hS hl
      rw [f_X9_readPiece_l24] at h
      refine lv_iload_n hx hb dX9_readPiece_24 rfl (lv_at hl 2 rfl) ?_
      refine sgN X hS (sfX X).2.1 wd_2_178 dX9_readPiece_25 ?_
      refine stl (v := 6) X hS (sfX X).2.2.2.2.2.2.2.2.1 rfl dX9_readPiece_28 ?_
      refine lv_icmp_ge (tgt := 83) hx hb dX9_readPiece_29 rfl (fun c29 => ?_) (fun c29 => ?_)
      · have h := br_p c29 h
        refine lv_iload_n hx hb dX9_readPiece_83 rfl (lv_at hl 1 rfl) ?_
        exact ret h hP hS dX9_readPiece_84
      · have h := br_n c29 h
        refine lv_aload_n hx hb dX9_readPiece_32 rfl (lv_at hl 0 rfl) ?_
        refine gf_X9_14_UText_0 X hP dX9_readPiece_33 ?_
        refine sgN X hS (sfX X).2.1 wd_2_178 dX9_readPiece_36 ?_
        refine lv_iload_n hx hb dX9_readPiece_39 rfl (lv_at hl 2 rfl) ?_
        obtain ⟨hi40, h⟩ := gv_of h
        refine stq X hS (sfX X).2.2.2.2.2.2.2.2.1 hi40 dX9_readPiece_40 ?_
        refine W.eq (g2 := F0 m 41 ls [.ref (g.2 (40 + (x2).toNatClampNeg)), .ref a1]) rfl ?_
        refine ofN X hS ((sfX X).2.2.2.2.2.2.2.2.2.2.2.2.2.1 _ (vin_lt hi40)).2.2.1 wd_7_222 dX9_readPiece_41 ?_
        refine lv_iload_n hx hb dX9_readPiece_44 rfl (lv_at hl 1 rfl) ?_
        obtain ⟨o3, hco3, h⟩ := bd_of h
        obtain ⟨hF, hFA⟩ := fo_UText_Scan_1 hP
        refine kVN (rest := []) X dX9_readPiece_45 wd_2_180 mw_X5_reads wd_2_182 wp_1_15 hF (k0 := 0) rfl rfl rfl hS hFA (c_X5_reads (p9 (vin_lt hi40)) hco3) rfl hl.1 rfl (Nat.le_of_ble_eq_true rfl) rfl rfl ⟨Nat.le_of_ble_eq_true rfl, Nat.le_of_ble_eq_true rfl⟩ (fun H locs hF1 _ hk hS => ?_)
        have hP := un_UText_Scan_1 hP hk hF1
        refine W.eq (g2 := F0 m 48 ls [.int (bI o3)]) rfl ?_
        refine rb_eq (tgt := 77) hx hb dX9_readPiece_48 rfl (fun c48 => ?_) (fun c48 => ?_)
        · have h := br_n c48 h
          obtain ⟨v4, ev4⟩ : ∃ z : Int32, z = (x2 + 1) := ⟨_, rfl⟩
          have h := lt_at ev4 h
          refine lv_iinc (v := v4) (lv' := [(2, .int v4), (0, .ref a0), (1, .int x1)]) hx hb dX9_readPiece_77 hl (k := 2) rfl (by rw [ev4]; rfl) (by decide) rfl (fun ls hl => ?_)
          refine lv_goto (tgt := 24) hx hb dX9_readPiece_80 rfl ?_
          exact ih x1 v4 x_width x_guard x_stages x_fold x_pipe x_near s_at _ _ _ h hP hS (lv_sub hl [1, 2, 0] rfl)
        · have h := br_p c48 h
          refine lv_aload_n hx hb dX9_readPiece_51 rfl (lv_at hl 0 rfl) ?_
          refine sgN X hS (sfX X).2.1 wd_2_178 dX9_readPiece_52 ?_
          refine lv_iload_n hx hb dX9_readPiece_55 rfl (lv_at hl 2 rfl) ?_
          obtain ⟨hi56, h⟩ := gv_of h
          refine stq X hS (sfX X).2.2.2.2.2.2.2.2.1 hi56 dX9_readPiece_56 ?_
          refine W.eq (g2 := F0 m 57 ls [.ref (g.2 (40 + (x2).toNatClampNeg)), .ref a0]) rfl ?_
          obtain ⟨o5, hco5, h⟩ := bd_of h
          refine kV (rest := []) X dX9_readPiece_57 wd_2_232 mw_X9_mayCome wd_2_234 wp_2_0 hP (k0 := 0) rfl rfl rfl hS (fun _ z => z) (c_X9_mayCome (vin_lt hi56) hco5) rfl hl.1 rfl (Nat.le_of_ble_eq_true rfl) rfl rfl ⟨Nat.le_of_ble_eq_true rfl, Nat.le_of_ble_eq_true rfl⟩ (fun H locs hP _ _ hS => ?_)
          refine W.eq (g2 := F0 m 60 ls [.int (bI o5)]) rfl ?_
          refine rb_eq (tgt := 75) hx hb dX9_readPiece_60 rfl (fun c60 => ?_) (fun c60 => ?_)
          · have h := br_n c60 h
            refine lv_iload_n hx hb dX9_readPiece_75 rfl (lv_at hl 1 rfl) ?_
            exact ret h hP hS dX9_readPiece_76
          · have h := br_p c60 h
            refine lv_aload_n hx hb dX9_readPiece_63 rfl (lv_at hl 0 rfl) ?_
            refine sgN X hS (sfX X).2.1 wd_2_178 dX9_readPiece_64 ?_
            refine lv_iload_n hx hb dX9_readPiece_67 rfl (lv_at hl 2 rfl) ?_
            obtain ⟨hi68, h⟩ := gv_of h
            refine stq X hS (sfX X).2.2.2.2.2.2.2.2.1 hi68 dX9_readPiece_68 ?_
            refine W.eq (g2 := F0 m 69 ls [.ref (g.2 (40 + (x2).toNatClampNeg)), .ref a0]) rfl ?_
            obtain ⟨o6, hco6, h⟩ := bd_of h
            refine kV (rest := []) X dX9_readPiece_69 wd_3_4 mw_X9_readRest wd_3_6 wp_2_1 hP (k0 := 0) rfl rfl rfl hS (fun _ z => z) (c_X9_readRest (vin_lt hi68) hco6) rfl hl.1 rfl (Nat.le_of_ble_eq_true rfl) rfl rfl ⟨Nat.le_of_ble_eq_true rfl, Nat.le_of_ble_eq_true rfl⟩ (fun H locs hP _ _ hS => ?_)
            refine W.eq (g2 := F0 m 72 ls [.int o6.1]) rfl ?_
            refine lv_goto (tgt := 76) hx hb dX9_readPiece_72 rfl ?_
            exact ret h hP hS dX9_readPiece_76
  unfold f_X9_readPiece at h
  refine lv_aload_n hx hb dX9_readPiece_0 rfl (lv_at hl 0 rfl) ?_
  refine gf_X9_14_UText_0 X hP dX9_readPiece_1 ?_
  obtain ⟨o1, hco1, h⟩ := bd_of h
  obtain ⟨hF, hFA⟩ := fo_UText_Scan_1 hP
  refine kVN (rest := []) X dX9_readPiece_4 wd_2_162 mw_X5_skipBlanks wd_2_164 wp_1_11 hF (k0 := 0) rfl rfl rfl hS hFA (c_X5_skipBlanks hco1) rfl hl.1 rfl (Nat.le_of_ble_eq_true rfl) rfl rfl ⟨Nat.le_of_ble_eq_true rfl, Nat.le_of_ble_eq_true rfl⟩ (fun H locs hF1 _ hk hS => ?_)
  have hP := un_UText_Scan_1 hP hk hF1
  refine W.eq (g2 := F0 m 7 ls []) rfl ?_
  refine lv_aload_n hx hb dX9_readPiece_7 rfl (lv_at hl 0 rfl) ?_
  refine gf_X9_14_UText_0 X hP dX9_readPiece_8 ?_
  refine gf_X9_44_UText_1 X hP dX9_readPiece_11 ?_
  refine lv_istore_n (lv' := [(1, .int o1), (0, .ref a0)]) hx hb dX9_readPiece_14 rfl hl (by decide) rfl (fun ls hl => ?_)
  refine lv_aload_n hx hb dX9_readPiece_15 rfl (lv_at hl 1 rfl) ?_
  refine gf_X9_14_UText_0 X hP dX9_readPiece_16 ?_
  obtain ⟨o2, hco2, h⟩ := bd_of h
  obtain ⟨hF, hFA⟩ := fo_UText_Scan_1 hP
  refine kVN (rest := []) X dX9_readPiece_19 wd_2_170 mw_X5_passLetters wd_2_172 wp_1_13 hF (k0 := 0) rfl rfl rfl hS hFA (c_X5_passLetters hco2) rfl hl.1 rfl (Nat.le_of_ble_eq_true rfl) rfl rfl ⟨Nat.le_of_ble_eq_true rfl, Nat.le_of_ble_eq_true rfl⟩ (fun H locs hF1 _ hk hS => ?_)
  have hP := un_UText_Scan_1 hP hk hF1
  refine W.eq (g2 := F0 m 22 ls []) rfl ?_
  refine lv_iconst (v := 0) hx hb dX9_readPiece_22 rfl ?_
  refine lv_istore_n (lv' := [(2, .int 0), (1, .int o1), (0, .ref a0)]) hx hb dX9_readPiece_23 rfl hl (by decide) rfl (fun ls hl => ?_)
  exact l24  FU o1 (0 : Int32) x_width x_guard x_stages x_fold x_pipe x_near o2 _ _ _ h hP hS (lv_sub hl [2, 1, 0] rfl)
abbrev rm_X9_read : Room := { frames := 6, cells := 0, slots := 0, locals := 135 }
set_option maxRecDepth 100000 in
set_option maxHeartbeats 4000000 in
theorem c_X9_read {g : gT} {l : Launch} {A : Nat → Prop} {a0 a1 a2 a3 : Nat} {x_width : Int32} {x_guard : Int32} {x_stages : Int32} {x_fold : Int32} {x_pipe : Bool} {x_near : Bool} {s_at : Int32} {t_length : Int32} {t_bytes : Nat → Int32}  {o : Int32 × Int32 × Int32 × Int32 × Int32 × Bool × Bool × Int32} (h : f_X9_read  x_width x_guard x_stages x_fold x_pipe x_near s_at t_length t_bytes = some o) : Std g l yX9_read (.code yX9_read cX9_read 3 (some .int) :: gw) rm_X9_read A [.ref a0] (wUText g a0 a1 a2 a3 x_width x_guard x_stages x_fold x_pipe x_near s_at t_length t_bytes) (wUText g a0 a1 a2 a3 o.2.1 o.2.2.1 o.2.2.2.1 o.2.2.2.2.1 o.2.2.2.2.2.1 o.2.2.2.2.2.2.1 o.2.2.2.2.2.2.2 t_length t_bytes) (some (.int o.1)) := by
  refine std_i (own := RX9) (by decide +kernel) rfl (Nat.le_of_ble_eq_true rfl) ?_
  intro p e s m args below meth c Q X ret H locs hP hS ls hl
  have hx := X.1
  have hb := X.2.1
  have hl : lv_has ls 3 [(0, .ref a0)] := hl
  have ret : ∀ {H : Heap} {locs : List Loc} {pc : Nat} {ls : Array Slot} {v : Int32} {x_width : Int32} {x_guard : Int32} {x_stages : Int32} {x_fold : Int32} {x_pipe : Bool} {x_near : Bool} {s_at : Int32}, some (v, x_width, x_guard, x_stages, x_fold, x_pipe, x_near, s_at) = some o → WP g A (wUText g a0 a1 a2 a3 x_width x_guard x_stages x_fold x_pipe x_near s_at t_length t_bytes) H → va_S A s.heap H locs → decode cX9_read pc = .ok (.ireturn, 1) → W p l e rm_X9_read s m args below meth c H locs 0 0 Q (F0 m pc ls [.int v]) := by
    intro H locs pc ls v x_width x_guard x_stages x_fold x_pipe x_near s_at h hP hS hd
    cases h
    exact ret hP hS hd
  have b60 : ∀ (k6 : Int32 → Int32 → Int32 → Int32 → Int32 → Bool → Bool → Int32 → Option (Int32 × Int32 × Int32 × Int32 × Int32 × Bool × Bool × Int32)) (hk6 : ∀ (x1 : Int32) (x_width : Int32) (x_guard : Int32) (x_stages : Int32) (x_fold : Int32) (x_pipe : Bool) (x_near : Bool) (s_at : Int32) (H : Heap) (locs : List Loc) (ls : Array Slot), k6 x1 x_width x_guard x_stages x_fold x_pipe x_near s_at = some o → WP g A (wUText g a0 a1 a2 a3 x_width x_guard x_stages x_fold x_pipe x_near s_at t_length t_bytes) H → va_S A s.heap H locs → lv_has ls 3 [(0, .ref a0), (1, .int x1)] → W p l e rm_X9_read s m args below meth c H locs 0 0 Q (F0 m 6 ls [])) , ∀ (x1 : Int32) (x_width : Int32) (x_guard : Int32) (x_stages : Int32) (x_fold : Int32) (x_pipe : Bool) (x_near : Bool) (s_at : Int32) (H : Heap) (locs : List Loc) (ls : Array Slot), f_X9_read_b60  t_length t_bytes k6 x1 x_width x_guard x_stages x_fold x_pipe x_near s_at = some o → WP g A (wUText g a0 a1 a2 a3 x_width x_guard x_stages x_fold x_pipe x_near s_at t_length t_bytes) H → va_S A s.heap H locs → lv_has ls 3 [(0, .ref a0), (1, .int x1)] → W p l e rm_X9_read s m args below meth c H locs 0 0 Q (F0 m 60 ls []) := by
    intro k6 hk6 x1 x_width x_guard x_stages x_fold x_pipe x_near s_at H locs ls h hP hS hl
    unfold f_X9_read_b60 at h
    refine lv_aload_n hx hb dX9_read_60 rfl (lv_at hl 0 rfl) ?_
    refine gf_X9_14_UText_0 X hP dX9_read_61 ?_
    obtain ⟨o5, hco5, h⟩ := bd_of h
    obtain ⟨hF, hFA⟩ := fo_UText_Scan_1 hP
    refine kVN (rest := []) X dX9_read_64 wd_3_28 mw_X5_here wd_2_168 wp_1_12 hF (k0 := 0) rfl rfl rfl hS hFA (c_X5_here hco5) rfl hl.1 rfl (Nat.le_of_ble_eq_true rfl) rfl rfl ⟨Nat.le_of_ble_eq_true rfl, Nat.le_of_ble_eq_true rfl⟩ (fun H locs hF1 _ hk hS => ?_)
    have hP := un_UText_Scan_1 hP hk hF1
    refine W.eq (g2 := F0 m 67 ls [.int o5]) rfl ?_
    refine lv_bipush (v := 59) hx hb dX9_read_67 rfl ?_
    refine lv_icmp_eq (tgt := 80) hx hb dX9_read_69 rfl (fun c69 => ?_) (fun c69 => ?_)
    · have h := br_p c69 h
      refine lv_aload_n hx hb dX9_read_80 rfl (lv_at hl 0 rfl) ?_
      refine gf_X9_14_UText_0 X hP dX9_read_81 ?_
      refine lv_dup hx hb dX9_read_84 rfl ?_
      refine gf_X9_44_UText_1 X hP dX9_read_85 ?_
      refine lv_iconst (v := 1) hx hb dX9_read_88 rfl ?_
      refine lv_iadd hx hb dX9_read_89 ?_
      refine lv_topi (fun v6 ev6 => ?_)
      have h := lt_at ev6 h
      refine pf_X9_44_UText_1 (v0 := v6) X hP hS dX9_read_90 (fun H locs hP hS => ?_)
      obtain ⟨v7, ev7⟩ : ∃ z : Int32, z = (x1 + 1) := ⟨_, rfl⟩
      have h := lt_at ev7 h
      refine lv_iinc (v := v7) (lv' := [(1, .int v7), (0, .ref a0)]) hx hb dX9_read_93 hl (k := 1) rfl (by rw [ev7]; rfl) (by decide) rfl (fun ls hl => ?_)
      refine lv_goto (tgt := 6) hx hb dX9_read_96 rfl ?_
      exact hk6 v7 x_width x_guard x_stages x_fold x_pipe x_near v6 _ _ _ h hP hS (lv_sub hl [1, 0] rfl)
    · have h := br_n c69 h
      refine lv_aload_n hx hb dX9_read_72 rfl (lv_at hl 0 rfl) ?_
      refine gf_X9_14_UText_0 X hP dX9_read_73 ?_
      refine gf_X9_44_UText_1 X hP dX9_read_76 ?_
      exact ret h hP hS dX9_read_79
  have l6 : ∀ (n : Nat), ∀ (x1 : Int32) (x_width : Int32) (x_guard : Int32) (x_stages : Int32) (x_fold : Int32) (x_pipe : Bool) (x_near : Bool) (s_at : Int32) (H : Heap) (locs : List Loc) (ls : Array Slot), f_X9_read_l6  t_length t_bytes  n x1 x_width x_guard x_stages x_fold x_pipe x_near s_at = some o → WP g A (wUText g a0 a1 a2 a3 x_width x_guard x_stages x_fold x_pipe x_near s_at t_length t_bytes) H → va_S A s.heap H locs → lv_has ls 3 [(0, .ref a0), (1, .int x1)] → W p l e rm_X9_read s m args below meth c H locs 0 0 Q (F0 m 6 ls []) := by
    intro  n
    induction n with
    | zero =>
      intro x1 x_width x_guard x_stages x_fold x_pipe x_near s_at H locs ls h
      exact nz_of h
    | succ n ih =>
      intro x1 x_width x_guard x_stages x_fold x_pipe x_near s_at H locs ls h hP hS hl
      rw [f_X9_read_l6] at h
      refine lv_iload_n hx hb dX9_read_6 rfl (lv_at hl 1 rfl) ?_
      refine lv_sipush (v := 400) hx hb dX9_read_7 rfl ?_
      refine lv_icmp_gt (tgt := 99) hx hb dX9_read_10 rfl (fun c10 => ?_) (fun c10 => ?_)
      · have h := br_p c10 h
        refine lv_aload_n hx hb dX9_read_99 rfl (lv_at hl 0 rfl) ?_
        refine gf_X9_14_UText_0 X hP dX9_read_100 ?_
        refine gf_X9_44_UText_1 X hP dX9_read_103 ?_
        exact ret h hP hS dX9_read_106
      · have h := br_n c10 h
        refine lv_aload_n hx hb dX9_read_13 rfl (lv_at hl 0 rfl) ?_
        obtain ⟨o2, hco2, h⟩ := bd_of h
        refine kV (rest := []) X dX9_read_14 wd_2_158 mw_X9_readPiece wd_2_160 wp_1_10 hP (k0 := 0) rfl rfl rfl hS (fun _ z => z) (c_X9_readPiece hco2) rfl hl.1 rfl (Nat.le_of_ble_eq_true rfl) rfl rfl ⟨Nat.le_of_ble_eq_true rfl, Nat.le_of_ble_eq_true rfl⟩ (fun H locs hP _ _ hS => ?_)
        refine W.eq (g2 := F0 m 17 ls [.int o2.1]) rfl ?_
        refine lv_istore_n (lv' := [(2, .int o2.1), (0, .ref a0), (1, .int x1)]) hx hb dX9_read_17 rfl hl (by decide) rfl (fun ls hl => ?_)
        refine lv_iload_n hx hb dX9_read_18 rfl (lv_at hl 0 rfl) ?_
        refine lv_iconst (v := (-1)) hx hb dX9_read_19 rfl ?_
        refine lv_icmp_eq (tgt := 25) hx hb dX9_read_20 rfl (fun c20 => ?_) (fun c20 => ?_)
        · have h := br_p c20 h
          refine lv_aload_n hx hb dX9_read_25 rfl (lv_at hl 1 rfl) ?_
          refine gf_X9_14_UText_0 X hP dX9_read_26 ?_
          obtain ⟨o3, hco3, h⟩ := bd_of h
          obtain ⟨hF, hFA⟩ := fo_UText_Scan_1 hP
          refine kVN (rest := []) X dX9_read_29 wd_2_162 mw_X5_skipBlanks wd_2_164 wp_1_11 hF (k0 := 0) rfl rfl rfl hS hFA (c_X5_skipBlanks hco3) rfl hl.1 rfl (Nat.le_of_ble_eq_true rfl) rfl rfl ⟨Nat.le_of_ble_eq_true rfl, Nat.le_of_ble_eq_true rfl⟩ (fun H locs hF1 _ hk hS => ?_)
          have hP := un_UText_Scan_1 hP hk hF1
          refine W.eq (g2 := F0 m 32 ls []) rfl ?_
          refine lv_aload_n hx hb dX9_read_32 rfl (lv_at hl 1 rfl) ?_
          refine gf_X9_14_UText_0 X hP dX9_read_33 ?_
          obtain ⟨o4, hco4, h⟩ := bd_of h
          obtain ⟨hF, hFA⟩ := fo_UText_Scan_1 hP
          refine kVN (rest := []) X dX9_read_36 wd_3_24 mw_X5_isAtEnd wd_3_26 wp_2_6 hF (k0 := 0) rfl rfl rfl hS hFA (c_X5_isAtEnd hco4) rfl hl.1 rfl (Nat.le_of_ble_eq_true rfl) rfl rfl ⟨Nat.le_of_ble_eq_true rfl, Nat.le_of_ble_eq_true rfl⟩ (fun H locs hF1 _ hk hS => ?_)
          have hP := un_UText_Scan_1 hP hk hF1
          refine W.eq (g2 := F0 m 39 ls [.int (bI o4)]) rfl ?_
          refine rb_eq (tgt := 60) hx hb dX9_read_39 rfl (fun c39 => ?_) (fun c39 => ?_)
          · have h := br_n c39 h
            exact b60 (f_X9_read_l6  t_length t_bytes  n) ih  x1 o2.2.1 o2.2.2.1 o2.2.2.2.1 o2.2.2.2.2.1 o2.2.2.2.2.2.1 o2.2.2.2.2.2.2.1 o3 _ _ _ h hP hS (lv_sub hl [1, 2] rfl)
          · have h := br_p c39 h
            refine lv_aload_n hx hb dX9_read_42 rfl (lv_at hl 1 rfl) ?_
            refine gf_X9_34_UText_0 X hP dX9_read_43 ?_
            refine lv_iconst (v := (-1)) hx hb dX9_read_46 rfl ?_
            refine lv_icmp_eq (tgt := 60) hx hb dX9_read_47 rfl (fun c47 => ?_) (fun c47 => ?_)
            · have h := br_p c47 h
              exact b60 (f_X9_read_l6  t_length t_bytes  n) ih  x1 o2.2.1 o2.2.2.1 o2.2.2.2.1 o2.2.2.2.2.1 o2.2.2.2.2.2.1 o2.2.2.2.2.2.2.1 o3 _ _ _ h hP hS (lv_sub hl [1, 2] rfl)
            · have h := br_n c47 h
              refine lv_aload_n hx hb dX9_read_50 rfl (lv_at hl 1 rfl) ?_
              refine gf_X9_38_UText_0 X hP dX9_read_51 ?_
              refine lv_iconst (v := (-1)) hx hb dX9_read_54 rfl ?_
              refine lv_icmp_eq (tgt := 60) hx hb dX9_read_55 rfl (fun c55 => ?_) (fun c55 => ?_)
              · have h := br_p c55 h
                exact b60 (f_X9_read_l6  t_length t_bytes  n) ih  x1 o2.2.1 o2.2.2.1 o2.2.2.2.1 o2.2.2.2.2.1 o2.2.2.2.2.2.1 o2.2.2.2.2.2.2.1 o3 _ _ _ h hP hS (lv_sub hl [1, 2] rfl)
              · have h := br_n c55 h
                refine lv_iconst (v := (-1)) hx hb dX9_read_58 rfl ?_
                exact ret h hP hS dX9_read_59
        · have h := br_n c20 h
          refine lv_iload_n hx hb dX9_read_23 rfl (lv_at hl 0 rfl) ?_
          exact ret h hP hS dX9_read_24
  unfold f_X9_read at h
  refine lv_aload_n hx hb dX9_read_0 rfl (lv_at hl 0 rfl) ?_
  obtain ⟨o1, hco1, h⟩ := bd_of h
  refine kV (rest := []) X dX9_read_1 wd_2_154 mw_X9_forget wd_2_156 wp_1_9 hP (k0 := 0) rfl rfl rfl hS (fun _ z => z) (c_X9_forget hco1) rfl hl.1 rfl (Nat.le_of_ble_eq_true rfl) rfl rfl ⟨Nat.le_of_ble_eq_true rfl, Nat.le_of_ble_eq_true rfl⟩ (fun H locs hP _ _ hS => ?_)
  refine W.eq (g2 := F0 m 4 ls []) rfl ?_
  refine lv_iconst (v := 0) hx hb dX9_read_4 rfl ?_
  refine lv_istore_n (lv' := [(1, .int 0), (0, .ref a0)]) hx hb dX9_read_5 rfl hl (by decide) rfl (fun ls hl => ?_)
  exact l6  FU (0 : Int32) o1.1 o1.2.1 o1.2.2.1 o1.2.2.2.1 o1.2.2.2.2.1 o1.2.2.2.2.2.1 o1.2.2.2.2.2.2 _ _ _ h hP hS (lv_sub hl [1, 0] rfl)
abbrev rm_X9_guardOrUsual : Room := { frames := 0, cells := 0, slots := 0, locals := 0 }
set_option maxRecDepth 100000 in
set_option maxHeartbeats 4000000 in
theorem c_X9_guardOrUsual {g : gT} {l : Launch} {A : Nat → Prop} {a0 a1 a2 a3 : Nat} {x_width : Int32} {x_guard : Int32} {x_stages : Int32} {x_fold : Int32} {x_pipe : Bool} {x_near : Bool} {s_at : Int32} {t_length : Int32} {t_bytes : Nat → Int32}  {o : Int32} (h : f_X9_guardOrUsual  x_guard = some o) : Std g l yX9_guardOrUsual (.code yX9_guardOrUsual cX9_guardOrUsual 1 (some .int) :: gw) rm_X9_guardOrUsual A [.ref a0] (wUText g a0 a1 a2 a3 x_width x_guard x_stages x_fold x_pipe x_near s_at t_length t_bytes) (wUText g a0 a1 a2 a3 x_width x_guard x_stages x_fold x_pipe x_near s_at t_length t_bytes) (some (.int o)) := by
  refine std_i (own := RX9) (by decide +kernel) rfl (Nat.le_of_ble_eq_true rfl) ?_
  intro p e s m args below meth c Q X ret H locs hP hS ls hl
  have hx := X.1
  have hb := X.2.1
  have hl : lv_has ls 1 [(0, .ref a0)] := hl
  have ret : ∀ {H : Heap} {locs : List Loc} {pc : Nat} {ls : Array Slot} {v : Int32} , some (v) = some o → WP g A (wUText g a0 a1 a2 a3 x_width x_guard x_stages x_fold x_pipe x_near s_at t_length t_bytes) H → va_S A s.heap H locs → decode cX9_guardOrUsual pc = .ok (.ireturn, 1) → W p l e rm_X9_guardOrUsual s m args below meth c H locs 0 0 Q (F0 m pc ls [.int v]) := by
    intro H locs pc ls v h hP hS hd
    cases h
    exact ret hP hS hd
  unfold f_X9_guardOrUsual at h
  refine lv_aload_n hx hb dX9_guardOrUsual_0 rfl (lv_at hl 0 rfl) ?_
  refine gf_X9_47_UText_0 X hP dX9_guardOrUsual_1 ?_
  refine lv_iconst (v := (-1)) hx hb dX9_guardOrUsual_4 rfl ?_
  refine jx1 h (P := fun (v1 : Int32) => ∀ ls : Array Slot, lv_has ls 1 [] → W p l e rm_X9_guardOrUsual s m args below meth c H locs 0 0 Q (F0 m 16 ls [.int v1])) ?_ ?_
  · intro v1 h ls hl
    exact ret h hP hS dX9_guardOrUsual_16
  · intro J h
    refine lv_icmp_ne (tgt := 12) hx hb dX9_guardOrUsual_5 rfl (fun c5 => ?_) (fun c5 => ?_)
    · refine lv_aload_n hx hb dX9_guardOrUsual_12 rfl (lv_at hl 0 rfl) ?_
      refine gf_X9_47_UText_0 X hP dX9_guardOrUsual_13 ?_
      exact J _ (lt_in c5 h) ls (lv_sub hl [] rfl)
    · refine lv_iconst (v := 2) hx hb dX9_guardOrUsual_8 rfl ?_
      refine lv_goto (tgt := 16) hx hb dX9_guardOrUsual_9 rfl ?_
      exact J _ (lt_ip c5 h) ls (lv_sub hl [] rfl)
abbrev rm_X9_placesOrStages : Room := { frames := 0, cells := 0, slots := 0, locals := 0 }
set_option maxRecDepth 100000 in
set_option maxHeartbeats 4000000 in
theorem c_X9_placesOrStages {g : gT} {l : Launch} {A : Nat → Prop} {a0 a1 a2 a3 : Nat} {x_width : Int32} {x_guard : Int32} {x_stages : Int32} {x_fold : Int32} {x_pipe : Bool} {x_near : Bool} {s_at : Int32} {t_length : Int32} {t_bytes : Nat → Int32}  {o : Int32} (h : f_X9_placesOrStages  x_stages x_fold = some o) : Std g l yX9_placesOrStages (.code yX9_placesOrStages cX9_placesOrStages 1 (some .int) :: gw) rm_X9_placesOrStages A [.ref a0] (wUText g a0 a1 a2 a3 x_width x_guard x_stages x_fold x_pipe x_near s_at t_length t_bytes) (wUText g a0 a1 a2 a3 x_width x_guard x_stages x_fold x_pipe x_near s_at t_length t_bytes) (some (.int o)) := by
  refine std_i (own := RX9) (by decide +kernel) rfl (Nat.le_of_ble_eq_true rfl) ?_
  intro p e s m args below meth c Q X ret H locs hP hS ls hl
  have hx := X.1
  have hb := X.2.1
  have hl : lv_has ls 1 [(0, .ref a0)] := hl
  have ret : ∀ {H : Heap} {locs : List Loc} {pc : Nat} {ls : Array Slot} {v : Int32} , some (v) = some o → WP g A (wUText g a0 a1 a2 a3 x_width x_guard x_stages x_fold x_pipe x_near s_at t_length t_bytes) H → va_S A s.heap H locs → decode cX9_placesOrStages pc = .ok (.ireturn, 1) → W p l e rm_X9_placesOrStages s m args below meth c H locs 0 0 Q (F0 m pc ls [.int v]) := by
    intro H locs pc ls v h hP hS hd
    cases h
    exact ret hP hS hd
  unfold f_X9_placesOrStages at h
  refine lv_aload_n hx hb dX9_placesOrStages_0 rfl (lv_at hl 0 rfl) ?_
  refine gf_X9_50_UText_0 X hP dX9_placesOrStages_1 ?_
  refine lv_iconst (v := (-1)) hx hb dX9_placesOrStages_4 rfl ?_
  refine jx1 h (P := fun (v1 : Int32) => ∀ ls : Array Slot, lv_has ls 1 [] → W p l e rm_X9_placesOrStages s m args below meth c H locs 0 0 Q (F0 m 19 ls [.int v1])) ?_ ?_
  · intro v1 h ls hl
    exact ret h hP hS dX9_placesOrStages_19
  · intro J h
    refine lv_icmp_ne (tgt := 15) hx hb dX9_placesOrStages_5 rfl (fun c5 => ?_) (fun c5 => ?_)
    · refine lv_aload_n hx hb dX9_placesOrStages_15 rfl (lv_at hl 0 rfl) ?_
      refine gf_X9_50_UText_0 X hP dX9_placesOrStages_16 ?_
      exact J _ (lt_in c5 h) ls (lv_sub hl [] rfl)
    · refine lv_aload_n hx hb dX9_placesOrStages_8 rfl (lv_at hl 0 rfl) ?_
      refine gf_X9_38_UText_0 X hP dX9_placesOrStages_9 ?_
      refine lv_goto (tgt := 19) hx hb dX9_placesOrStages_12 rfl ?_
      exact J _ (lt_ip c5 h) ls (lv_sub hl [] rfl)
abbrev rm_X10_feed : Room := { frames := 1, cells := 0, slots := 0, locals := 23 }
set_option maxRecDepth 100000 in
set_option maxHeartbeats 4000000 in
theorem c_X10_feed {g : gT} {l : Launch} {A : Nat → Prop} {q : Nat → Nat} {z_hasUnit : Bool} {z_hasImage : Bool} {t_length : Int32} {t_bytes : Nat → Int32} {x_width : Int32} {x_guard : Int32} {x_stages : Int32} {x_fold : Int32} {x_pipe : Bool} {x_near : Bool} {s_at : Int32} {o_lines : Int32} {n_at : Int32} {o_kinds : Nat → Int32} {o_operands : Nat → Int32} {o_ties : Nat → Int32} {u_width : Int32} {u_guard : Int32} {u_bits : Int32} {u_stages : Int32} {u_places : Int32} {u_near : Bool} {u_quarter : Int64} {u_eighth : Int64} {u_ln : Int64} {u_shifts : Nat → Int32} {u_angles : Nat → Int64} {u_gains : Nat → Int64} {u_undos : Nat → Int64} {u_digits : Nat → Int32} {r_x : Int64} {r_y : Int64} {r_z : Int64} {r_upBits : Int32} {r_steps : Int32} {r_first : Int64} {r_second : Int64} {v_width : Int32} {v_guard : Int32} {v_bits : Int32} {v_stages : Int32} {v_places : Int32} {v_near : Bool} {v_quarter : Int64} {v_eighth : Int64} {v_ln : Int64} {v_shifts : Nat → Int32} {v_angles : Nat → Int64} {v_gains : Nat → Int64} {v_undos : Nat → Int64} {v_digits : Nat → Int32} {k_x : Int64} {k_y : Int64} {k_z : Int64} {k_upBits : Int32} {k_steps : Int32} {k_first : Int64} {k_second : Int64} {b_jobs : Int32} {b_over : Int32} {b_clocks : Int32} {b_held : Bool} {b_kinds : Nat → Int32} {b_operands : Nat → Int32} {b_ties : Nat → Int32} {b_states : Nat → Int32} {b_gone : Nat → Int32} {b_toldIn : Nat → Int32} {b_broughtIn : Nat → Int32} {b_doneIn : Nat → Int32} {c_jobs : Int32} {c_over : Int32} {c_clocks : Int32} {c_held : Bool} {c_kinds : Nat → Int32} {c_operands : Nat → Int32} {c_ties : Nat → Int32} {c_states : Nat → Int32} {c_gone : Nat → Int32} {c_toldIn : Nat → Int32} {c_broughtIn : Nat → Int32} {c_doneIn : Nat → Int32} {d_jobs : Int32} {d_over : Int32} {d_clocks : Int32} {d_held : Bool} {d_kinds : Nat → Int32} {d_operands : Nat → Int32} {d_ties : Nat → Int32} {d_states : Nat → Int32} {d_gone : Nat → Int32} {d_toldIn : Nat → Int32} {d_broughtIn : Nat → Int32} {d_doneIn : Nat → Int32} {z_refusals : Nat → Int32} {p0 : Int32} {p1 : Int32} {p2 : Int32} {p3 : Int32} {p4 : Int32} {o : Int32 × Int32 × (Nat → Int32)} (h : f_X10_feed p0 p1 p2 p3 p4 t_length t_bytes = some o) : Std g l yX10_feed (.code yX10_feed cX10_feed 7 (some .int) :: gw) rm_X10_feed A [.ref (q 0), .int p0, .int p1, .int p2, .int p3, .int p4] (wX g q z_hasUnit z_hasImage t_length t_bytes x_width x_guard x_stages x_fold x_pipe x_near s_at o_lines n_at o_kinds o_operands o_ties u_width u_guard u_bits u_stages u_places u_near u_quarter u_eighth u_ln u_shifts u_angles u_gains u_undos u_digits r_x r_y r_z r_upBits r_steps r_first r_second v_width v_guard v_bits v_stages v_places v_near v_quarter v_eighth v_ln v_shifts v_angles v_gains v_undos v_digits k_x k_y k_z k_upBits k_steps k_first k_second b_jobs b_over b_clocks b_held b_kinds b_operands b_ties b_states b_gone b_toldIn b_broughtIn b_doneIn c_jobs c_over c_clocks c_held c_kinds c_operands c_ties c_states c_gone c_toldIn c_broughtIn c_doneIn d_jobs d_over d_clocks d_held d_kinds d_operands d_ties d_states d_gone d_toldIn d_broughtIn d_doneIn z_refusals) (wX g q z_hasUnit z_hasImage o.2.1 o.2.2 x_width x_guard x_stages x_fold x_pipe x_near s_at o_lines n_at o_kinds o_operands o_ties u_width u_guard u_bits u_stages u_places u_near u_quarter u_eighth u_ln u_shifts u_angles u_gains u_undos u_digits r_x r_y r_z r_upBits r_steps r_first r_second v_width v_guard v_bits v_stages v_places v_near v_quarter v_eighth v_ln v_shifts v_angles v_gains v_undos v_digits k_x k_y k_z k_upBits k_steps k_first k_second b_jobs b_over b_clocks b_held b_kinds b_operands b_ties b_states b_gone b_toldIn b_broughtIn b_doneIn c_jobs c_over c_clocks c_held c_kinds c_operands c_ties c_states c_gone c_toldIn c_broughtIn c_doneIn d_jobs d_over d_clocks d_held d_kinds d_operands d_ties d_states d_gone d_toldIn d_broughtIn d_doneIn z_refusals) (some (.int o.1)) := by
  refine std_i (own := RX10) (by decide +kernel) rfl (Nat.le_of_ble_eq_true rfl) ?_
  intro p e s m args below meth c Q X ret H locs hP hS ls hl
  have hx := X.1
  have hb := X.2.1
  have hl : lv_has ls 7 [(0, .ref (q 0)), (1, .int p0), (2, .int p1), (3, .int p2), (4, .int p3), (5, .int p4)] := hl
  have ret : ∀ {H : Heap} {locs : List Loc} {pc : Nat} {ls : Array Slot} {v : Int32} {t_length : Int32} {t_bytes : Nat → Int32}, some (v, t_length, t_bytes) = some o → WP g A (wX g q z_hasUnit z_hasImage t_length t_bytes x_width x_guard x_stages x_fold x_pipe x_near s_at o_lines n_at o_kinds o_operands o_ties u_width u_guard u_bits u_stages u_places u_near u_quarter u_eighth u_ln u_shifts u_angles u_gains u_undos u_digits r_x r_y r_z r_upBits r_steps r_first r_second v_width v_guard v_bits v_stages v_places v_near v_quarter v_eighth v_ln v_shifts v_angles v_gains v_undos v_digits k_x k_y k_z k_upBits k_steps k_first k_second b_jobs b_over b_clocks b_held b_kinds b_operands b_ties b_states b_gone b_toldIn b_broughtIn b_doneIn c_jobs c_over c_clocks c_held c_kinds c_operands c_ties c_states c_gone c_toldIn c_broughtIn c_doneIn d_jobs d_over d_clocks d_held d_kinds d_operands d_ties d_states d_gone d_toldIn d_broughtIn d_doneIn z_refusals) H → va_S A s.heap H locs → decode cX10_feed pc = .ok (.ireturn, 1) → W p l e rm_X10_feed s m args below meth c H locs 0 0 Q (F0 m pc ls [.int v]) := by
    intro H locs pc ls v t_length t_bytes h hP hS hd
    cases h
    exact ret hP hS hd
  unfold f_X10_feed at h
  refine lv_iload_n hx hb dX10_feed_0 rfl (lv_at hl 1 rfl) ?_
  obtain ⟨o1, hco1, h⟩ := bd_of h
  refine kSN (rest := []) X dX10_feed_1 wd_2_135 mw_X6_bytesTold wd_2_136 hP hS (fun _ z => z) (c_X6_bytesTold hco1) rfl hl.1 rfl (Nat.le_of_ble_eq_true rfl) rfl rfl ⟨Nat.le_of_ble_eq_true rfl, Nat.le_of_ble_eq_true rfl⟩ (fun H locs hP _ _ hS => ?_)
  refine W.eq (g2 := F0 m 4 ls [.int o1]) rfl ?_
  refine lv_iload_n hx hb dX10_feed_4 rfl (lv_at hl 2 rfl) ?_
  obtain ⟨o2, hco2, h⟩ := bd_of h
  refine kSN (rest := [.int o1]) X dX10_feed_5 wd_2_135 mw_X6_bytesTold wd_2_136 hP hS (fun _ z => z) (c_X6_bytesTold hco2) rfl hl.1 rfl (Nat.le_of_ble_eq_true rfl) rfl rfl ⟨Nat.le_of_ble_eq_true rfl, Nat.le_of_ble_eq_true rfl⟩ (fun H locs hP _ _ hS => ?_)
  refine W.eq (g2 := F0 m 8 ls [.int o2, .int o1]) rfl ?_
  refine lv_iadd hx hb dX10_feed_8 ?_
  refine lv_iload_n hx hb dX10_feed_9 rfl (lv_at hl 3 rfl) ?_
  obtain ⟨o3, hco3, h⟩ := bd_of h
  refine kSN (rest := [.int (o1 + o2)]) X dX10_feed_10 wd_2_135 mw_X6_bytesTold wd_2_136 hP hS (fun _ z => z) (c_X6_bytesTold hco3) rfl hl.1 rfl (Nat.le_of_ble_eq_true rfl) rfl rfl ⟨Nat.le_of_ble_eq_true rfl, Nat.le_of_ble_eq_true rfl⟩ (fun H locs hP _ _ hS => ?_)
  refine W.eq (g2 := F0 m 13 ls [.int o3, .int (o1 + o2)]) rfl ?_
  refine lv_iadd hx hb dX10_feed_13 ?_
  refine lv_iload hx hb dX10_feed_14 (lv_at hl 4 rfl) ?_
  obtain ⟨o4, hco4, h⟩ := bd_of h
  refine kSN (rest := [.int ((o1 + o2) + o3)]) X dX10_feed_16 wd_2_135 mw_X6_bytesTold wd_2_136 hP hS (fun _ z => z) (c_X6_bytesTold hco4) rfl hl.1 rfl (Nat.le_of_ble_eq_true rfl) rfl rfl ⟨Nat.le_of_ble_eq_true rfl, Nat.le_of_ble_eq_true rfl⟩ (fun H locs hP _ _ hS => ?_)
  refine W.eq (g2 := F0 m 19 ls [.int o4, .int ((o1 + o2) + o3)]) rfl ?_
  refine lv_iadd hx hb dX10_feed_19 ?_
  refine lv_iload hx hb dX10_feed_20 (lv_at hl 5 rfl) ?_
  obtain ⟨o5, hco5, h⟩ := bd_of h
  refine kSN (rest := [.int (((o1 + o2) + o3) + o4)]) X dX10_feed_22 wd_2_135 mw_X6_bytesTold wd_2_136 hP hS (fun _ z => z) (c_X6_bytesTold hco5) rfl hl.1 rfl (Nat.le_of_ble_eq_true rfl) rfl rfl ⟨Nat.le_of_ble_eq_true rfl, Nat.le_of_ble_eq_true rfl⟩ (fun H locs hP _ _ hS => ?_)
  refine W.eq (g2 := F0 m 25 ls [.int o5, .int (((o1 + o2) + o3) + o4)]) rfl ?_
  refine lv_iadd hx hb dX10_feed_25 ?_
  refine lv_topi (fun v6 ev6 => ?_)
  have h := lt_at ev6 h
  refine lv_istore (lv' := [(6, .int v6), (0, .ref (q 0)), (1, .int p0), (2, .int p1), (3, .int p2), (4, .int p3), (5, .int p4)]) hx hb dX10_feed_26 hl (by decide) rfl (fun ls hl => ?_)
  refine lv_aload_n hx hb dX10_feed_28 rfl (lv_at hl 1 rfl) ?_
  refine gf_X10_12_X_0 X hP dX10_feed_29 ?_
  refine gf_X10_78_X_1 X hP dX10_feed_32 ?_
  refine lv_iload hx hb dX10_feed_35 (lv_at hl 0 rfl) ?_
  refine lv_iadd hx hb dX10_feed_37 ?_
  refine lv_sipush (v := 400) hx hb dX10_feed_38 rfl ?_
  refine lv_icmp_le (tgt := 46) hx hb dX10_feed_41 rfl (fun c41 => ?_) (fun c41 => ?_)
  · have h := br_p c41 h
    refine lv_aload_n hx hb dX10_feed_46 rfl (lv_at hl 1 rfl) ?_
    refine gf_X10_12_X_0 X hP dX10_feed_47 ?_
    refine lv_iload_n hx hb dX10_feed_50 rfl (lv_at hl 2 rfl) ?_
    obtain ⟨o7, hco7, h⟩ := bd_of h
    obtain ⟨hF, hFA⟩ := fo_X_Tape_1 hP
    refine kVN (rest := []) X dX10_feed_51 wd_2_138 mw_X6_append wd_2_140 wp_1_7 hF (k0 := 0) rfl rfl rfl hS hFA (c_X6_append hco7) rfl hl.1 rfl (Nat.le_of_ble_eq_true rfl) rfl rfl ⟨Nat.le_of_ble_eq_true rfl, Nat.le_of_ble_eq_true rfl⟩ (fun H locs hF1 _ hk hS => ?_)
    have hP := un_X_Tape_1 hP hk hF1
    refine W.eq (g2 := F0 m 54 ls []) rfl ?_
    refine lv_aload_n hx hb dX10_feed_54 rfl (lv_at hl 1 rfl) ?_
    refine gf_X10_12_X_0 X hP dX10_feed_55 ?_
    refine lv_iload_n hx hb dX10_feed_58 rfl (lv_at hl 3 rfl) ?_
    obtain ⟨o8, hco8, h⟩ := bd_of h
    obtain ⟨hF, hFA⟩ := fo_X_Tape_1 hP
    refine kVN (rest := []) X dX10_feed_59 wd_2_138 mw_X6_append wd_2_140 wp_1_7 hF (k0 := 0) rfl rfl rfl hS hFA (c_X6_append hco8) rfl hl.1 rfl (Nat.le_of_ble_eq_true rfl) rfl rfl ⟨Nat.le_of_ble_eq_true rfl, Nat.le_of_ble_eq_true rfl⟩ (fun H locs hF1 _ hk hS => ?_)
    have hP := un_X_Tape_1 hP hk hF1
    refine W.eq (g2 := F0 m 62 ls []) rfl ?_
    refine lv_aload_n hx hb dX10_feed_62 rfl (lv_at hl 1 rfl) ?_
    refine gf_X10_12_X_0 X hP dX10_feed_63 ?_
    refine lv_iload_n hx hb dX10_feed_66 rfl (lv_at hl 4 rfl) ?_
    obtain ⟨o9, hco9, h⟩ := bd_of h
    obtain ⟨hF, hFA⟩ := fo_X_Tape_1 hP
    refine kVN (rest := []) X dX10_feed_67 wd_2_138 mw_X6_append wd_2_140 wp_1_7 hF (k0 := 0) rfl rfl rfl hS hFA (c_X6_append hco9) rfl hl.1 rfl (Nat.le_of_ble_eq_true rfl) rfl rfl ⟨Nat.le_of_ble_eq_true rfl, Nat.le_of_ble_eq_true rfl⟩ (fun H locs hF1 _ hk hS => ?_)
    have hP := un_X_Tape_1 hP hk hF1
    refine W.eq (g2 := F0 m 70 ls []) rfl ?_
    refine lv_aload_n hx hb dX10_feed_70 rfl (lv_at hl 1 rfl) ?_
    refine gf_X10_12_X_0 X hP dX10_feed_71 ?_
    refine lv_iload hx hb dX10_feed_74 (lv_at hl 5 rfl) ?_
    obtain ⟨o10, hco10, h⟩ := bd_of h
    obtain ⟨hF, hFA⟩ := fo_X_Tape_1 hP
    refine kVN (rest := []) X dX10_feed_76 wd_2_138 mw_X6_append wd_2_140 wp_1_7 hF (k0 := 0) rfl rfl rfl hS hFA (c_X6_append hco10) rfl hl.1 rfl (Nat.le_of_ble_eq_true rfl) rfl rfl ⟨Nat.le_of_ble_eq_true rfl, Nat.le_of_ble_eq_true rfl⟩ (fun H locs hF1 _ hk hS => ?_)
    have hP := un_X_Tape_1 hP hk hF1
    refine W.eq (g2 := F0 m 79 ls []) rfl ?_
    refine lv_aload_n hx hb dX10_feed_79 rfl (lv_at hl 1 rfl) ?_
    refine gf_X10_12_X_0 X hP dX10_feed_80 ?_
    refine lv_iload hx hb dX10_feed_83 (lv_at hl 6 rfl) ?_
    obtain ⟨o11, hco11, h⟩ := bd_of h
    obtain ⟨hF, hFA⟩ := fo_X_Tape_1 hP
    refine kVN (rest := []) X dX10_feed_85 wd_2_138 mw_X6_append wd_2_140 wp_1_7 hF (k0 := 0) rfl rfl rfl hS hFA (c_X6_append hco11) rfl hl.1 rfl (Nat.le_of_ble_eq_true rfl) rfl rfl ⟨Nat.le_of_ble_eq_true rfl, Nat.le_of_ble_eq_true rfl⟩ (fun H locs hF1 _ hk hS => ?_)
    have hP := un_X_Tape_1 hP hk hF1
    refine W.eq (g2 := F0 m 88 ls []) rfl ?_
    refine lv_aload_n hx hb dX10_feed_88 rfl (lv_at hl 1 rfl) ?_
    refine gf_X10_12_X_0 X hP dX10_feed_89 ?_
    refine gf_X10_78_X_1 X hP dX10_feed_92 ?_
    exact ret h hP hS dX10_feed_95
  · have h := br_n c41 h
    refine lv_iconst (v := (-1)) hx hb dX10_feed_44 rfl ?_
    exact ret h hP hS dX10_feed_45
