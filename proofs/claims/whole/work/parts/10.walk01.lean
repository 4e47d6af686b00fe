abbrev rm_X7_beginPolar : Room := { frames := 1, cells := 0, slots := 0, locals := 26 }
set_option maxRecDepth 100000 in
set_option maxHeartbeats 4000000 in
theorem c_X7_beginPolar {g : gT} {l : Launch} {A : Nat → Prop} {a0 a1 a2 a3 a4 a5 a6 : Nat} {r_x : Int64} {r_y : Int64} {r_z : Int64} {r_upBits : Int32} {r_steps : Int32} {r_first : Int64} {r_second : Int64} {u_width : Int32} {u_guard : Int32} {u_bits : Int32} {u_stages : Int32} {u_places : Int32} {u_near : Bool} {u_quarter : Int64} {u_eighth : Int64} {u_ln : Int64} {u_shifts : Nat → Int32} {u_angles : Nat → Int64} {u_gains : Nat → Int64} {u_undos : Nat → Int64} {u_digits : Nat → Int32} {p0 : Int64} {p1 : Int64} {o : Int64 × Int64 × Int64} (h : f_X7_beginPolar p0 p1 r_x r_y r_z u_quarter = some o) : Std g l yX7_beginPolar (.code yX7_beginPolar cX7_beginPolar 5 none :: gw) rm_X7_beginPolar A [.ref a0, .long p0, .long p1] (wTurner g a0 a1 a2 a3 a4 a5 a6 r_x r_y r_z r_upBits r_steps r_first r_second u_width u_guard u_bits u_stages u_places u_near u_quarter u_eighth u_ln u_shifts u_angles u_gains u_undos u_digits) (wTurner g a0 a1 a2 a3 a4 a5 a6 o.1 o.2.1 o.2.2 r_upBits r_steps r_first r_second u_width u_guard u_bits u_stages u_places u_near u_quarter u_eighth u_ln u_shifts u_angles u_gains u_undos u_digits) none := by
  refine std_v (own := RX7) (by decide +kernel) rfl (Nat.le_of_ble_eq_true rfl) ?_
  intro p e s m args below meth c Q X ret H locs hP hS ls hl
  have hx := X.1
  have hb := X.2.1
  have hl : lv_has ls 5 [(0, .ref a0), (1, .long p0), (3, .long p1)] := hl
  have ret : ∀ {H : Heap} {locs : List Loc} {pc : Nat} {ls : Array Slot} {r_x : Int64} {r_y : Int64} {r_z : Int64}, some (r_x, r_y, r_z) = some o → WP g A (wTurner g a0 a1 a2 a3 a4 a5 a6 r_x r_y r_z r_upBits r_steps r_first r_second u_width u_guard u_bits u_stages u_places u_near u_quarter u_eighth u_ln u_shifts u_angles u_gains u_undos u_digits) H → va_S A s.heap H locs → decode cX7_beginPolar pc = .ok (.return_, 1) → W p l e rm_X7_beginPolar s m args below meth c H locs 0 0 Q (F0 m pc ls []) := by
    intro H locs pc ls r_x r_y r_z h hP hS hd
    cases h
    exact ret hP hS hd
  unfold f_X7_beginPolar at h
  refine lv_lload_n hx hb dX7_beginPolar_0 rfl (lv_at hl 1 rfl) ?_
  refine lv_lconst (v := 0) hx hb dX7_beginPolar_1 rfl ?_
  refine rl_lt (tgt := 16) hx hb dX7_beginPolar_2 dX7_beginPolar_3 rfl (fun c2 => ?_) (fun c2 => ?_)
  · have h := br_p c2 h
    refine lv_aload_n hx hb dX7_beginPolar_16 rfl (lv_at hl 0 rfl) ?_
    refine lv_lload_n hx hb dX7_beginPolar_17 rfl (lv_at hl 1 rfl) ?_
    refine lv_lneg hx hb dX7_beginPolar_18 ?_
    refine lv_lload_n hx hb dX7_beginPolar_19 rfl (lv_at hl 2 rfl) ?_
    refine lv_lneg hx hb dX7_beginPolar_20 ?_
    refine lv_lload_n hx hb dX7_beginPolar_21 rfl (lv_at hl 2 rfl) ?_
    refine lv_lconst (v := 0) hx hb dX7_beginPolar_22 rfl ?_
    refine jx1 h (P := fun (v1 : Int64) => ∀ ls : Array Slot, lv_has ls 5 [] → W p l e rm_X7_beginPolar s m args below meth c H locs 0 0 Q (F0 m 52 ls [.long v1, .long (-p1), .long (-p0), .ref a0])) ?_ ?_
    · intro v1 h ls hl
      obtain ⟨o2, hco2, h⟩ := bd_of h
      refine kV (rest := []) X dX7_beginPolar_52 wd_3_188 mw_X7_put wd_3_190 wp_3_14 hP (k0 := 0) rfl rfl rfl hS (fun _ z => z) (c_X7_put hco2) rfl hl.1 rfl (Nat.le_of_ble_eq_true rfl) rfl rfl ⟨Nat.le_of_ble_eq_true rfl, Nat.le_of_ble_eq_true rfl⟩ (fun H locs hP _ _ hS => ?_)
      refine W.eq (g2 := F0 m 55 ls []) rfl ?_
      exact ret h hP hS dX7_beginPolar_55
    · intro J h
      refine rl_lt (tgt := 41) hx hb dX7_beginPolar_23 dX7_beginPolar_24 rfl (fun c23 => ?_) (fun c23 => ?_)
      · refine lv_ldc2 (v := (-2)) hx hb X.2.2.2.1 (X.2.2.2.2.1 _ wd_3_196) dX7_beginPolar_41 ?_
        refine lv_aload_n hx hb dX7_beginPolar_44 rfl (lv_at hl 0 rfl) ?_
        refine gf_X7_9_Turner_0 X hP dX7_beginPolar_45 ?_
        refine gf_X7_93_Turner_1 X hP dX7_beginPolar_48 ?_
        refine lv_lmul hx hb dX7_beginPolar_51 ?_
        exact J _ (lt_ip c23 h) ls (lv_sub hl [] rfl)
      · refine lv_ldc2 (v := 2) hx hb X.2.2.2.1 (X.2.2.2.2.1 _ wd_3_184) dX7_beginPolar_27 ?_
        refine lv_aload_n hx hb dX7_beginPolar_30 rfl (lv_at hl 0 rfl) ?_
        refine gf_X7_9_Turner_0 X hP dX7_beginPolar_31 ?_
        refine gf_X7_93_Turner_1 X hP dX7_beginPolar_34 ?_
        refine lv_lmul hx hb dX7_beginPolar_37 ?_
        refine lv_goto (tgt := 52) hx hb dX7_beginPolar_38 rfl ?_
        exact J _ (lt_in c23 h) ls (lv_sub hl [] rfl)
  · have h := br_n c2 h
    refine lv_aload_n hx hb dX7_beginPolar_6 rfl (lv_at hl 0 rfl) ?_
    refine lv_lload_n hx hb dX7_beginPolar_7 rfl (lv_at hl 1 rfl) ?_
    refine lv_lload_n hx hb dX7_beginPolar_8 rfl (lv_at hl 2 rfl) ?_
    refine lv_lconst (v := 0) hx hb dX7_beginPolar_9 rfl ?_
    obtain ⟨o3, hco3, h⟩ := bd_of h
    refine kV (rest := []) X dX7_beginPolar_10 wd_3_188 mw_X7_put wd_3_190 wp_3_14 hP (k0 := 0) rfl rfl rfl hS (fun _ z => z) (c_X7_put hco3) rfl hl.1 rfl (Nat.le_of_ble_eq_true rfl) rfl rfl ⟨Nat.le_of_ble_eq_true rfl, Nat.le_of_ble_eq_true rfl⟩ (fun H locs hP _ _ hS => ?_)
    refine W.eq (g2 := F0 m 13 ls []) rfl ?_
    refine lv_goto (tgt := 55) hx hb dX7_beginPolar_13 rfl ?_
    exact ret h hP hS dX7_beginPolar_55
abbrev rm_X8_shifted : Room := { frames := 0, cells := 0, slots := 0, locals := 0 }
set_option maxRecDepth 100000 in
set_option maxHeartbeats 4000000 in
theorem c_X8_shifted {g : gT} {l : Launch} {A : Nat → Prop} {a0 a1 a2 a3 a4 a5 : Nat} {u_width : Int32} {u_guard : Int32} {u_bits : Int32} {u_stages : Int32} {u_places : Int32} {u_near : Bool} {u_quarter : Int64} {u_eighth : Int64} {u_ln : Int64} {u_shifts : Nat → Int32} {u_angles : Nat → Int64} {u_gains : Nat → Int64} {u_undos : Nat → Int64} {u_digits : Nat → Int32} {p0 : Int64} {p1 : Int32} {o : Int64} (h : f_X8_shifted p0 p1 u_near = some o) : Std g l yX8_shifted (.code yX8_shifted cX8_shifted 4 (some .long) :: gw) rm_X8_shifted A [.ref a0, .long p0, .int p1] (wUnit g a0 a1 a2 a3 a4 a5 u_width u_guard u_bits u_stages u_places u_near u_quarter u_eighth u_ln u_shifts u_angles u_gains u_undos u_digits) (wUnit g a0 a1 a2 a3 a4 a5 u_width u_guard u_bits u_stages u_places u_near u_quarter u_eighth u_ln u_shifts u_angles u_gains u_undos u_digits) (some (.long o)) := by
  refine std_l (own := RX8) (by decide +kernel) rfl (Nat.le_of_ble_eq_true rfl) ?_
  intro p e s m args below meth c Q X ret H locs hP hS ls hl
  have hx := X.1
  have hb := X.2.1
  have hl : lv_has ls 4 [(0, .ref a0), (1, .long p0), (3, .int p1)] := hl
  have ret : ∀ {H : Heap} {locs : List Loc} {pc : Nat} {ls : Array Slot} {v : Int64} , some (v) = some o → WP g A (wUnit g a0 a1 a2 a3 a4 a5 u_width u_guard u_bits u_stages u_places u_near u_quarter u_eighth u_ln u_shifts u_angles u_gains u_undos u_digits) H → va_S A s.heap H locs → decode cX8_shifted pc = .ok (.lreturn, 1) → W p l e rm_X8_shifted s m args below meth c H locs 0 0 Q (F0 m pc ls [.long v]) := by
    intro H locs pc ls v h hP hS hd
    cases h
    exact ret hP hS hd
  unfold f_X8_shifted at h
  refine lv_aload_n hx hb dX8_shifted_0 rfl (lv_at hl 0 rfl) ?_
  refine gf_X8_41_Unit_0 X hP dX8_shifted_1 ?_
  refine jx1 h (P := fun (v1 : Int64) => ∀ ls : Array Slot, lv_has ls 4 [] → W p l e rm_X8_shifted s m args below meth c H locs 0 0 Q (F0 m 26 ls [.long v1])) ?_ ?_
  · intro v1 h ls hl
    exact ret h hP hS dX8_shifted_26
  · intro J h
    refine rb_eq (tgt := 23) hx hb dX8_shifted_4 rfl (fun c4 => ?_) (fun c4 => ?_)
    · refine lv_lload_n hx hb dX8_shifted_23 rfl (lv_at hl 1 rfl) ?_
      refine lv_iload_n hx hb dX8_shifted_24 rfl (lv_at hl 2 rfl) ?_
      refine lv_lshr hx hb dX8_shifted_25 rfl ?_
      exact J _ (lt_in c4 h) ls (lv_sub hl [] rfl)
    · refine lv_iload_n hx hb dX8_shifted_7 rfl (lv_at hl 2 rfl) ?_
      refine lv_if_le (tgt := 23) hx hb dX8_shifted_8 rfl (fun c8 => ?_) (fun c8 => ?_)
      · refine lv_lload_n hx hb dX8_shifted_23 rfl (lv_at hl 1 rfl) ?_
        refine lv_iload_n hx hb dX8_shifted_24 rfl (lv_at hl 2 rfl) ?_
        refine lv_lshr hx hb dX8_shifted_25 rfl ?_
        exact J _ (lt_ip c8 (lt_ip c4 h)) ls (lv_sub hl [] rfl)
      · refine lv_lload_n hx hb dX8_shifted_11 rfl (lv_at hl 1 rfl) ?_
        refine lv_lconst (v := 1) hx hb dX8_shifted_12 rfl ?_
        refine lv_iload_n hx hb dX8_shifted_13 rfl (lv_at hl 2 rfl) ?_
        refine lv_iconst (v := 1) hx hb dX8_shifted_14 rfl ?_
        refine lv_isub hx hb dX8_shifted_15 ?_
        refine lv_lshl hx hb dX8_shifted_16 rfl ?_
        refine lv_ladd hx hb dX8_shifted_17 ?_
        refine lv_iload_n hx hb dX8_shifted_18 rfl (lv_at hl 2 rfl) ?_
        refine lv_lshr hx hb dX8_shifted_19 rfl ?_
        refine lv_goto (tgt := 26) hx hb dX8_shifted_20 rfl ?_
        exact J _ (lt_in c8 (lt_ip c4 h)) ls (lv_sub hl [] rfl)
abbrev rm_X7_beginTimes : Room := { frames := 1, cells := 0, slots := 0, locals := 26 }
set_option maxRecDepth 100000 in
set_option maxHeartbeats 4000000 in
theorem c_X7_beginTimes {g : gT} {l : Launch} {A : Nat → Prop} {a0 a1 a2 a3 a4 a5 a6 : Nat} {r_x : Int64} {r_y : Int64} {r_z : Int64} {r_upBits : Int32} {r_steps : Int32} {r_first : Int64} {r_second : Int64} {u_width : Int32} {u_guard : Int32} {u_bits : Int32} {u_stages : Int32} {u_places : Int32} {u_near : Bool} {u_quarter : Int64} {u_eighth : Int64} {u_ln : Int64} {u_shifts : Nat → Int32} {u_angles : Nat → Int64} {u_gains : Nat → Int64} {u_undos : Nat → Int64} {u_digits : Nat → Int32} {p0 : Int64} {p1 : Int64} {o : Int64 × Int64 × Int64 × Int32} (h : f_X7_beginTimes p0 p1 r_x r_y r_z r_steps u_bits u_near = some o) : Std g l yX7_beginTimes (.code yX7_beginTimes cX7_beginTimes 5 none :: gw) rm_X7_beginTimes A [.ref a0, .long p0, .long p1] (wTurner g a0 a1 a2 a3 a4 a5 a6 r_x r_y r_z r_upBits r_steps r_first r_second u_width u_guard u_bits u_stages u_places u_near u_quarter u_eighth u_ln u_shifts u_angles u_gains u_undos u_digits) (wTurner g a0 a1 a2 a3 a4 a5 a6 o.1 o.2.1 o.2.2.1 r_upBits o.2.2.2 r_first r_second u_width u_guard u_bits u_stages u_places u_near u_quarter u_eighth u_ln u_shifts u_angles u_gains u_undos u_digits) none := by
  refine std_v (own := RX7) (by decide +kernel) rfl (Nat.le_of_ble_eq_true rfl) ?_
  intro p e s m args below meth c Q X ret H locs hP hS ls hl
  have hx := X.1
  have hb := X.2.1
  have hl : lv_has ls 5 [(0, .ref a0), (1, .long p0), (3, .long p1)] := hl
  have ret : ∀ {H : Heap} {locs : List Loc} {pc : Nat} {ls : Array Slot} {r_x : Int64} {r_y : Int64} {r_z : Int64} {r_steps : Int32}, some (r_x, r_y, r_z, r_steps) = some o → WP g A (wTurner g a0 a1 a2 a3 a4 a5 a6 r_x r_y r_z r_upBits r_steps r_first r_second u_width u_guard u_bits u_stages u_places u_near u_quarter u_eighth u_ln u_shifts u_angles u_gains u_undos u_digits) H → va_S A s.heap H locs → decode cX7_beginTimes pc = .ok (.return_, 1) → W p l e rm_X7_beginTimes s m args below meth c H locs 0 0 Q (F0 m pc ls []) := by
    intro H locs pc ls r_x r_y r_z r_steps h hP hS hd
    cases h
    exact ret hP hS hd
  have b43 : ∀ (x1 : Int64) (x3 : Int64) (r_x : Int64) (r_y : Int64) (r_z : Int64) (r_steps : Int32) (H : Heap) (locs : List Loc) (ls : Array Slot), f_X7_beginTimes_b43  u_bits u_near  x1 x3 r_x r_y r_z r_steps = some o → WP g A (wTurner g a0 a1 a2 a3 a4 a5 a6 r_x r_y r_z r_upBits r_steps r_first r_second u_width u_guard u_bits u_stages u_places u_near u_quarter u_eighth u_ln u_shifts u_angles u_gains u_undos u_digits) H → va_S A s.heap H locs → lv_has ls 5 [(0, .ref a0), (1, .long x1), (3, .long x3)] → W p l e rm_X7_beginTimes s m args below meth c H locs 0 0 Q (F0 m 43 ls []) := by
    intro  x1 x3 r_x r_y r_z r_steps H locs ls h hP hS hl
    unfold f_X7_beginTimes_b43 at h
    refine lv_aload_n hx hb dX7_beginTimes_43 rfl (lv_at hl 0 rfl) ?_
    refine lv_lload_n hx hb dX7_beginTimes_44 rfl (lv_at hl 1 rfl) ?_
    refine lv_lconst (v := 0) hx hb dX7_beginTimes_45 rfl ?_
    refine lv_aload_n hx hb dX7_beginTimes_46 rfl (lv_at hl 0 rfl) ?_
    refine gf_X7_9_Turner_0 X hP dX7_beginTimes_47 ?_
    refine lv_lload_n hx hb dX7_beginTimes_50 rfl (lv_at hl 2 rfl) ?_
    refine lv_aload_n hx hb dX7_beginTimes_51 rfl (lv_at hl 0 rfl) ?_
    refine gf_X7_86_Turner_0 X hP dX7_beginTimes_52 ?_
    obtain ⟨o1, hco1, h⟩ := bd_of h
    obtain ⟨hF, hFA⟩ := fo_Turner_Unit_1 hP
    refine kVN (rest := [.long (0 : Int64), .long x1, .ref a0]) X dX7_beginTimes_55 wd_3_201 mw_X8_shifted wd_3_135 wp_3_7 hF (k0 := 0) rfl rfl rfl hS hFA (c_X8_shifted hco1) rfl hl.1 rfl (Nat.le_of_ble_eq_true rfl) rfl rfl ⟨Nat.le_of_ble_eq_true rfl, Nat.le_of_ble_eq_true rfl⟩ (fun H locs hF1 _ hk hS => ?_)
    have hP := un_Turner_Unit_1 hP hk hF1
    refine W.eq (g2 := F0 m 58 ls [.long o1, .long (0 : Int64), .long x1, .ref a0]) rfl ?_
    obtain ⟨o2, hco2, h⟩ := bd_of h
    refine kV (rest := []) X dX7_beginTimes_58 wd_3_188 mw_X7_put wd_3_190 wp_3_14 hP (k0 := 0) rfl rfl rfl hS (fun _ z => z) (c_X7_put hco2) rfl hl.1 rfl (Nat.le_of_ble_eq_true rfl) rfl rfl ⟨Nat.le_of_ble_eq_true rfl, Nat.le_of_ble_eq_true rfl⟩ (fun H locs hP _ _ hS => ?_)
    refine W.eq (g2 := F0 m 61 ls []) rfl ?_
    exact ret h hP hS dX7_beginTimes_61
  have l0 : ∀ (n : Nat), ∀ (x1 : Int64) (x3 : Int64) (r_x : Int64) (r_y : Int64) (r_z : Int64) (r_steps : Int32) (H : Heap) (locs : List Loc) (ls : Array Slot), f_X7_beginTimes_l0  u_bits u_near  n x1 x3 r_x r_y r_z r_steps = some o → WP g A (wTurner g a0 a1 a2 a3 a4 a5 a6 r_x r_y r_z r_upBits r_steps r_first r_second u_width u_guard u_bits u_stages u_places u_near u_quarter u_eighth u_ln u_shifts u_angles u_gains u_undos u_digits) H → va_S A s.heap H locs → lv_has ls 5 [(0, .ref a0), (1, .long x1), (3, .long x3)] → W p l e rm_X7_beginTimes s m args below meth c H locs 0 0 Q (F0 m 0 ls []) := by
    intro  n
    induction n with
    | zero =>
      intro x1 x3 r_x r_y r_z r_steps H locs ls h
      exact nz_of h
    | succ n ih =>
      intro x1 x3 r_x r_y r_z r_steps H locs ls h hP hS hl
      rw [f_X7_beginTimes_l0] at h
      refine lv_aload_n hx hb dX7_beginTimes_0 rfl (lv_at hl 0 rfl) ?_
      refine gf_X7_86_Turner_0 X hP dX7_beginTimes_1 ?_
      refine lv_iconst (v := 4) hx hb dX7_beginTimes_4 rfl ?_
      refine lv_icmp_ge (tgt := 43) hx hb dX7_beginTimes_5 rfl (fun c5 => ?_) (fun c5 => ?_)
      · have h := br_p c5 h
        exact b43   x1 x3 r_x r_y r_z r_steps _ _ _ h hP hS (lv_sub hl [0, 1, 2] rfl)
      · have h := br_n c5 h
        refine lv_lload_n hx hb dX7_beginTimes_8 rfl (lv_at hl 2 rfl) ?_
        obtain ⟨o3, hco3, h⟩ := bd_of h
        refine kS (rest := []) X dX7_beginTimes_9 wd_3_170 mw_J9_abs_067f4 wd_3_171 hP hS (fun _ z => z) (c_J9_abs_067f4 hco3) rfl hl.1 rfl (Nat.le_of_ble_eq_true rfl) rfl rfl ⟨Nat.le_of_ble_eq_true rfl, Nat.le_of_ble_eq_true rfl⟩ (fun H locs hP _ _ hS => ?_)
        refine W.eq (g2 := F0 m 12 ls [.long o3]) rfl ?_
        refine lv_lconst (v := 1) hx hb dX7_beginTimes_12 rfl ?_
        refine lv_aload_n hx hb dX7_beginTimes_13 rfl (lv_at hl 0 rfl) ?_
        refine gf_X7_9_Turner_0 X hP dX7_beginTimes_14 ?_
        refine gf_X7_80_Turner_1 X hP dX7_beginTimes_17 ?_
        refine lv_aload_n hx hb dX7_beginTimes_20 rfl (lv_at hl 0 rfl) ?_
        refine gf_X7_86_Turner_0 X hP dX7_beginTimes_21 ?_
        refine lv_iadd hx hb dX7_beginTimes_24 ?_
        refine lv_lshl hx hb dX7_beginTimes_25 rfl ?_
        refine rl_le (tgt := 43) hx hb dX7_beginTimes_26 dX7_beginTimes_27 rfl (fun c26 => ?_) (fun c26 => ?_)
        · have h := br_p c26 h
          exact b43   x1 x3 r_x r_y r_z r_steps _ _ _ h hP hS (lv_sub hl [0, 1, 2] rfl)
        · have h := br_n c26 h
          refine lv_aload_n hx hb dX7_beginTimes_30 rfl (lv_at hl 0 rfl) ?_
          refine lv_dup hx hb dX7_beginTimes_31 rfl ?_
          refine gf_X7_86_Turner_0 X hP dX7_beginTimes_32 ?_
          refine lv_iconst (v := 1) hx hb dX7_beginTimes_35 rfl ?_
          refine lv_iadd hx hb dX7_beginTimes_36 ?_
          refine lv_topi (fun v4 ev4 => ?_)
          have h := lt_at ev4 h
          refine pf_X7_86_Turner_0 (v0 := v4) X hP hS dX7_beginTimes_37 (fun H locs hP hS => ?_)
          refine lv_goto (tgt := 0) hx hb dX7_beginTimes_40 rfl ?_
          exact ih x1 x3 r_x r_y r_z v4 _ _ _ h hP hS (lv_sub hl [0, 1, 2] rfl)
  unfold f_X7_beginTimes at h
  exact l0  FU p0 p1 r_x r_y r_z r_steps _ _ _ h hP hS (lv_sub hl [0, 1, 2] rfl)
abbrev rm_X7_beginOver : Room := { frames := 2, cells := 0, slots := 0, locals := 45 }
set_option maxRecDepth 100000 in
set_option maxHeartbeats 4000000 in
theorem c_X7_beginOver {g : gT} {l : Launch} {A : Nat → Prop} {a0 a1 a2 a3 a4 a5 a6 : Nat} {r_x : Int64} {r_y : Int64} {r_z : Int64} {r_upBits : Int32} {r_steps : Int32} {r_first : Int64} {r_second : Int64} {u_width : Int32} {u_guard : Int32} {u_bits : Int32} {u_stages : Int32} {u_places : Int32} {u_near : Bool} {u_quarter : Int64} {u_eighth : Int64} {u_ln : Int64} {u_shifts : Nat → Int32} {u_angles : Nat → Int64} {u_gains : Nat → Int64} {u_undos : Nat → Int64} {u_digits : Nat → Int32} {p0 : Int64} {p1 : Int64} {o : Int64 × Int64 × Int64 × Int32} (h : f_X7_beginOver p0 p1 r_x r_y r_z r_steps = some o) : Std g l yX7_beginOver (.code yX7_beginOver cX7_beginOver 5 none :: gw) rm_X7_beginOver A [.ref a0, .long p0, .long p1] (wTurner g a0 a1 a2 a3 a4 a5 a6 r_x r_y r_z r_upBits r_steps r_first r_second u_width u_guard u_bits u_stages u_places u_near u_quarter u_eighth u_ln u_shifts u_angles u_gains u_undos u_digits) (wTurner g a0 a1 a2 a3 a4 a5 a6 o.1 o.2.1 o.2.2.1 r_upBits o.2.2.2 r_first r_second u_width u_guard u_bits u_stages u_places u_near u_quarter u_eighth u_ln u_shifts u_angles u_gains u_undos u_digits) none := by
  refine std_v (own := RX7) (by decide +kernel) rfl (Nat.le_of_ble_eq_true rfl) ?_
  intro p e s m args below meth c Q X ret H locs hP hS ls hl
  have hx := X.1
  have hb := X.2.1
  have hl : lv_has ls 5 [(0, .ref a0), (1, .long p0), (3, .long p1)] := hl
  have ret : ∀ {H : Heap} {locs : List Loc} {pc : Nat} {ls : Array Slot} {r_x : Int64} {r_y : Int64} {r_z : Int64} {r_steps : Int32}, some (r_x, r_y, r_z, r_steps) = some o → WP g A (wTurner g a0 a1 a2 a3 a4 a5 a6 r_x r_y r_z r_upBits r_steps r_first r_second u_width u_guard u_bits u_stages u_places u_near u_quarter u_eighth u_ln u_shifts u_angles u_gains u_undos u_digits) H → va_S A s.heap H locs → decode cX7_beginOver pc = .ok (.return_, 1) → W p l e rm_X7_beginOver s m args below meth c H locs 0 0 Q (F0 m pc ls []) := by
    intro H locs pc ls r_x r_y r_z r_steps h hP hS hd
    cases h
    exact ret hP hS hd
  unfold f_X7_beginOver at h
  refine lv_aload_n hx hb dX7_beginOver_0 rfl (lv_at hl 0 rfl) ?_
  refine lv_lload_n hx hb dX7_beginOver_1 rfl (lv_at hl 1 rfl) ?_
  refine lv_lload_n hx hb dX7_beginOver_2 rfl (lv_at hl 2 rfl) ?_
  obtain ⟨o1, hco1, h⟩ := bd_of h
  refine kS (rest := [.ref a0]) X dX7_beginOver_3 wd_3_167 mw_X7_stepsOver wd_3_168 hP hS (fun _ z => z) (c_X7_stepsOver hco1) rfl hl.1 rfl (Nat.le_of_ble_eq_true rfl) rfl rfl ⟨Nat.le_of_ble_eq_true rfl, Nat.le_of_ble_eq_true rfl⟩ (fun H locs hP _ _ hS => ?_)
  refine W.eq (g2 := F0 m 6 ls [.int o1, .ref a0]) rfl ?_
  refine pf_X7_86_Turner_0 (v0 := o1) X hP hS dX7_beginOver_6 (fun H locs hP hS => ?_)
  refine lv_aload_n hx hb dX7_beginOver_9 rfl (lv_at hl 0 rfl) ?_
  refine lv_lload_n hx hb dX7_beginOver_10 rfl (lv_at hl 2 rfl) ?_
  obtain ⟨o2, hco2, h⟩ := bd_of h
  refine kS (rest := [.ref a0]) X dX7_beginOver_11 wd_3_170 mw_J9_abs_067f4 wd_3_171 hP hS (fun _ z => z) (c_J9_abs_067f4 hco2) rfl hl.1 rfl (Nat.le_of_ble_eq_true rfl) rfl rfl ⟨Nat.le_of_ble_eq_true rfl, Nat.le_of_ble_eq_true rfl⟩ (fun H locs hP _ _ hS => ?_)
  refine W.eq (g2 := F0 m 14 ls [.long o2, .ref a0]) rfl ?_
  refine lv_aload_n hx hb dX7_beginOver_14 rfl (lv_at hl 0 rfl) ?_
  refine gf_X7_86_Turner_0 X hP dX7_beginOver_15 ?_
  refine lv_lshl hx hb dX7_beginOver_18 rfl ?_
  refine lv_lload_n hx hb dX7_beginOver_19 rfl (lv_at hl 2 rfl) ?_
  refine lv_lconst (v := 0) hx hb dX7_beginOver_20 rfl ?_
  refine jx1 h (P := fun (v3 : Int64) => ∀ ls : Array Slot, lv_has ls 5 [] → W p l e rm_X7_beginOver s m args below meth c H locs 0 0 Q (F0 m 31 ls [.long v3, .long (o2 <<< (o1.toInt64 &&& 63)), .ref a0])) ?_ ?_
  · intro v3 h ls hl
    refine lv_lconst (v := 0) hx hb dX7_beginOver_31 rfl ?_
    obtain ⟨o4, hco4, h⟩ := bd_of h
    refine kV (rest := []) X dX7_beginOver_32 wd_3_188 mw_X7_put wd_3_190 wp_3_14 hP (k0 := 0) rfl rfl rfl hS (fun _ z => z) (c_X7_put hco4) rfl hl.1 rfl (Nat.le_of_ble_eq_true rfl) rfl rfl ⟨Nat.le_of_ble_eq_true rfl, Nat.le_of_ble_eq_true rfl⟩ (fun H locs hP _ _ hS => ?_)
    refine W.eq (g2 := F0 m 35 ls []) rfl ?_
    exact ret h hP hS dX7_beginOver_35
  · intro J h
    refine rl_ge (tgt := 30) hx hb dX7_beginOver_21 dX7_beginOver_22 rfl (fun c21 => ?_) (fun c21 => ?_)
    · refine lv_lload_n hx hb dX7_beginOver_30 rfl (lv_at hl 1 rfl) ?_
      exact J _ (lt_ip c21 h) ls (lv_sub hl [] rfl)
    · refine lv_lload_n hx hb dX7_beginOver_25 rfl (lv_at hl 1 rfl) ?_
      refine lv_lneg hx hb dX7_beginOver_26 ?_
      refine lv_goto (tgt := 31) hx hb dX7_beginOver_27 rfl ?_
      exact J _ (lt_in c21 h) ls (lv_sub hl [] rfl)
abbrev rm_X7_answers : Room := { frames := 0, cells := 0, slots := 0, locals := 0 }
set_option maxRecDepth 100000 in
set_option maxHeartbeats 4000000 in
theorem c_X7_answers {g : gT} {l : Launch} {A : Nat → Prop} {a0 a1 a2 a3 a4 a5 a6 : Nat} {r_x : Int64} {r_y : Int64} {r_z : Int64} {r_upBits : Int32} {r_steps : Int32} {r_first : Int64} {r_second : Int64} {u_width : Int32} {u_guard : Int32} {u_bits : Int32} {u_stages : Int32} {u_places : Int32} {u_near : Bool} {u_quarter : Int64} {u_eighth : Int64} {u_ln : Int64} {u_shifts : Nat → Int32} {u_angles : Nat → Int64} {u_gains : Nat → Int64} {u_undos : Nat → Int64} {u_digits : Nat → Int32} {p0 : Int64} {p1 : Int64} {o : Int64 × Int64} (h : f_X7_answers p0 p1 r_first r_second = some o) : Std g l yX7_answers (.code yX7_answers cX7_answers 5 none :: gw) rm_X7_answers A [.ref a0, .long p0, .long p1] (wTurner g a0 a1 a2 a3 a4 a5 a6 r_x r_y r_z r_upBits r_steps r_first r_second u_width u_guard u_bits u_stages u_places u_near u_quarter u_eighth u_ln u_shifts u_angles u_gains u_undos u_digits) (wTurner g a0 a1 a2 a3 a4 a5 a6 r_x r_y r_z r_upBits r_steps o.1 o.2 u_width u_guard u_bits u_stages u_places u_near u_quarter u_eighth u_ln u_shifts u_angles u_gains u_undos u_digits) none := by
  refine std_v (own := RX7) (by decide +kernel) rfl (Nat.le_of_ble_eq_true rfl) ?_
  intro p e s m args below meth c Q X ret H locs hP hS ls hl
  have hx := X.1
  have hb := X.2.1
  have hl : lv_has ls 5 [(0, .ref a0), (1, .long p0), (3, .long p1)] := hl
  have ret : ∀ {H : Heap} {locs : List Loc} {pc : Nat} {ls : Array Slot} {r_first : Int64} {r_second : Int64}, some (r_first, r_second) = some o → WP g A (wTurner g a0 a1 a2 a3 a4 a5 a6 r_x r_y r_z r_upBits r_steps r_first r_second u_width u_guard u_bits u_stages u_places u_near u_quarter u_eighth u_ln u_shifts u_angles u_gains u_undos u_digits) H → va_S A s.heap H locs → decode cX7_answers pc = .ok (.return_, 1) → W p l e rm_X7_answers s m args below meth c H locs 0 0 Q (F0 m pc ls []) := by
    intro H locs pc ls r_first r_second h hP hS hd
    cases h
    exact ret hP hS hd
  unfold f_X7_answers at h
  refine lv_aload_n hx hb dX7_answers_0 rfl (lv_at hl 0 rfl) ?_
  refine lv_lload_n hx hb dX7_answers_1 rfl (lv_at hl 1 rfl) ?_
  refine pf_X7_37_Turner_0 (v0 := p0) X hP hS dX7_answers_2 (fun H locs hP hS => ?_)
  refine lv_aload_n hx hb dX7_answers_5 rfl (lv_at hl 0 rfl) ?_
  refine lv_lload_n hx hb dX7_answers_6 rfl (lv_at hl 2 rfl) ?_
  refine pf_X7_41_Turner_0 (v0 := p1) X hP hS dX7_answers_7 (fun H locs hP hS => ?_)
  exact ret h hP hS dX7_answers_10
abbrev rm_X7_turnQuarters : Room := { frames := 1, cells := 0, slots := 0, locals := 24 }
set_option maxRecDepth 100000 in
set_option maxHeartbeats 4000000 in
theorem c_X7_turnQuarters {g : gT} {l : Launch} {A : Nat → Prop} {a0 a1 a2 a3 a4 a5 a6 : Nat} {r_x : Int64} {r_y : Int64} {r_z : Int64} {r_upBits : Int32} {r_steps : Int32} {r_first : Int64} {r_second : Int64} {u_width : Int32} {u_guard : Int32} {u_bits : Int32} {u_stages : Int32} {u_places : Int32} {u_near : Bool} {u_quarter : Int64} {u_eighth : Int64} {u_ln : Int64} {u_shifts : Nat → Int32} {u_angles : Nat → Int64} {u_gains : Nat → Int64} {u_undos : Nat → Int64} {u_digits : Nat → Int32} {p0 : Int64} {p1 : Int64} {o : Int64 × Int64} (h : f_X7_turnQuarters p0 p1 r_steps r_first r_second = some o) : Std g l yX7_turnQuarters (.code yX7_turnQuarters cX7_turnQuarters 5 none :: gw) rm_X7_turnQuarters A [.ref a0, .long p0, .long p1] (wTurner g a0 a1 a2 a3 a4 a5 a6 r_x r_y r_z r_upBits r_steps r_first r_second u_width u_guard u_bits u_stages u_places u_near u_quarter u_eighth u_ln u_shifts u_angles u_gains u_undos u_digits) (wTurner g a0 a1 a2 a3 a4 a5 a6 r_x r_y r_z r_upBits r_steps o.1 o.2 u_width u_guard u_bits u_stages u_places u_near u_quarter u_eighth u_ln u_shifts u_angles u_gains u_undos u_digits) none := by
  refine std_v (own := RX7) (by decide +kernel) rfl (Nat.le_of_ble_eq_true rfl) ?_
  intro p e s m args below meth c Q X ret H locs hP hS ls hl
  have hx := X.1
  have hb := X.2.1
  have hl : lv_has ls 5 [(0, .ref a0), (1, .long p0), (3, .long p1)] := hl
  have ret : ∀ {H : Heap} {locs : List Loc} {pc : Nat} {ls : Array Slot} {r_first : Int64} {r_second : Int64}, some (r_first, r_second) = some o → WP g A (wTurner g a0 a1 a2 a3 a4 a5 a6 r_x r_y r_z r_upBits r_steps r_first r_second u_width u_guard u_bits u_stages u_places u_near u_quarter u_eighth u_ln u_shifts u_angles u_gains u_undos u_digits) H → va_S A s.heap H locs → decode cX7_turnQuarters pc = .ok (.return_, 1) → W p l e rm_X7_turnQuarters s m args below meth c H locs 0 0 Q (F0 m pc ls []) := by
    intro H locs pc ls r_first r_second h hP hS hd
    cases h
    exact ret hP hS hd
  unfold f_X7_turnQuarters at h
  refine lv_aload_n hx hb dX7_turnQuarters_0 rfl (lv_at hl 0 rfl) ?_
  refine gf_X7_86_Turner_0 X hP dX7_turnQuarters_1 ?_
  refine lv_iconst (v := 3) hx hb dX7_turnQuarters_4 rfl ?_
  refine lv_iand hx hb dX7_turnQuarters_5 ?_
  by_cases c6_0 : (r_steps &&& (3 : Int32)) = 0
  · have h := br_p c6_0 h
    refine lv_tableIn (off := 26) (tgt := 32) hx hb dX7_turnQuarters_6 (by rw [c6_0]; decide) (by rw [c6_0]; decide) (by rw [c6_0]; rfl) rfl ?_
    refine lv_aload_n hx hb dX7_turnQuarters_32 rfl (lv_at hl 0 rfl) ?_
    refine lv_lload_n hx hb dX7_turnQuarters_33 rfl (lv_at hl 1 rfl) ?_
    refine lv_lload_n hx hb dX7_turnQuarters_34 rfl (lv_at hl 2 rfl) ?_
    obtain ⟨o1, hco1, h⟩ := bd_of h
    refine kV (rest := []) X dX7_turnQuarters_35 wd_3_232 mw_X7_answers wd_3_234 wp_4_6 hP (k0 := 0) rfl rfl rfl hS (fun _ z => z) (c_X7_answers hco1) rfl hl.1 rfl (Nat.le_of_ble_eq_true rfl) rfl rfl ⟨Nat.le_of_ble_eq_true rfl, Nat.le_of_ble_eq_true rfl⟩ (fun H locs hP _ _ hS => ?_)
    refine W.eq (g2 := F0 m 38 ls []) rfl ?_
    refine lv_goto (tgt := 69) hx hb dX7_turnQuarters_38 rfl ?_
    exact ret h hP hS dX7_turnQuarters_69
  have h := br_n c6_0 h
  by_cases c6_1 : (r_steps &&& (3 : Int32)) = 1
  · have h := br_p c6_1 h
    refine lv_tableIn (off := 35) (tgt := 41) hx hb dX7_turnQuarters_6 (by rw [c6_1]; decide) (by rw [c6_1]; decide) (by rw [c6_1]; rfl) rfl ?_
    refine lv_aload_n hx hb dX7_turnQuarters_41 rfl (lv_at hl 0 rfl) ?_
    refine lv_lload_n hx hb dX7_turnQuarters_42 rfl (lv_at hl 2 rfl) ?_
    refine lv_lneg hx hb dX7_turnQuarters_43 ?_
    refine lv_lload_n hx hb dX7_turnQuarters_44 rfl (lv_at hl 1 rfl) ?_
    obtain ⟨o2, hco2, h⟩ := bd_of h
    refine kV (rest := []) X dX7_turnQuarters_45 wd_3_232 mw_X7_answers wd_3_234 wp_4_6 hP (k0 := 0) rfl rfl rfl hS (fun _ z => z) (c_X7_answers hco2) rfl hl.1 rfl (Nat.le_of_ble_eq_true rfl) rfl rfl ⟨Nat.le_of_ble_eq_true rfl, Nat.le_of_ble_eq_true rfl⟩ (fun H locs hP _ _ hS => ?_)
    refine W.eq (g2 := F0 m 48 ls []) rfl ?_
    refine lv_goto (tgt := 69) hx hb dX7_turnQuarters_48 rfl ?_
    exact ret h hP hS dX7_turnQuarters_69
  have h := br_n c6_1 h
  by_cases c6_2 : (r_steps &&& (3 : Int32)) = 2
  · have h := br_p c6_2 h
    refine lv_tableIn (off := 45) (tgt := 51) hx hb dX7_turnQuarters_6 (by rw [c6_2]; decide) (by rw [c6_2]; decide) (by rw [c6_2]; rfl) rfl ?_
    refine lv_aload_n hx hb dX7_turnQuarters_51 rfl (lv_at hl 0 rfl) ?_
    refine lv_lload_n hx hb dX7_turnQuarters_52 rfl (lv_at hl 1 rfl) ?_
    refine lv_lneg hx hb dX7_turnQuarters_53 ?_
    refine lv_lload_n hx hb dX7_turnQuarters_54 rfl (lv_at hl 2 rfl) ?_
    refine lv_lneg hx hb dX7_turnQuarters_55 ?_
    obtain ⟨o3, hco3, h⟩ := bd_of h
    refine kV (rest := []) X dX7_turnQuarters_56 wd_3_232 mw_X7_answers wd_3_234 wp_4_6 hP (k0 := 0) rfl rfl rfl hS (fun _ z => z) (c_X7_answers hco3) rfl hl.1 rfl (Nat.le_of_ble_eq_true rfl) rfl rfl ⟨Nat.le_of_ble_eq_true rfl, Nat.le_of_ble_eq_true rfl⟩ (fun H locs hP _ _ hS => ?_)
    refine W.eq (g2 := F0 m 59 ls []) rfl ?_
    refine lv_goto (tgt := 69) hx hb dX7_turnQuarters_59 rfl ?_
    exact ret h hP hS dX7_turnQuarters_69
  have h := br_n c6_2 h
  refine lv_tableOut (tgt := 62) hx hb dX7_turnQuarters_6 (by have := lv_neT (a := 0) c6_0 rfl; have := lv_neT (a := 1) c6_1 rfl; have := lv_neT (a := 2) c6_2 rfl; omega) rfl ?_
  refine lv_aload_n hx hb dX7_turnQuarters_62 rfl (lv_at hl 0 rfl) ?_
  refine lv_lload_n hx hb dX7_turnQuarters_63 rfl (lv_at hl 2 rfl) ?_
  refine lv_lload_n hx hb dX7_turnQuarters_64 rfl (lv_at hl 1 rfl) ?_
  refine lv_lneg hx hb dX7_turnQuarters_65 ?_
  obtain ⟨o4, hco4, h⟩ := bd_of h
  refine kV (rest := []) X dX7_turnQuarters_66 wd_3_232 mw_X7_answers wd_3_234 wp_4_6 hP (k0 := 0) rfl rfl rfl hS (fun _ z => z) (c_X7_answers hco4) rfl hl.1 rfl (Nat.le_of_ble_eq_true rfl) rfl rfl ⟨Nat.le_of_ble_eq_true rfl, Nat.le_of_ble_eq_true rfl⟩ (fun H locs hP _ _ hS => ?_)
  refine W.eq (g2 := F0 m 69 ls []) rfl ?_
  exact ret h hP hS dX7_turnQuarters_69
abbrev rm_X7_beginTurn : Room := { frames := 2, cells := 0, slots := 0, locals := 48 }
set_option maxRecDepth 100000 in
set_option maxHeartbeats 4000000 in
theorem c_X7_beginTurn {g : gT} {l : Launch} {A : Nat → Prop} {a0 a1 a2 a3 a4 a5 a6 : Nat} {r_x : Int64} {r_y : Int64} {r_z : Int64} {r_upBits : Int32} {r_steps : Int32} {r_first : Int64} {r_second : Int64} {u_width : Int32} {u_guard : Int32} {u_bits : Int32} {u_stages : Int32} {u_places : Int32} {u_near : Bool} {u_quarter : Int64} {u_eighth : Int64} {u_ln : Int64} {u_shifts : Nat → Int32} {u_angles : Nat → Int64} {u_gains : Nat → Int64} {u_undos : Nat → Int64} {u_digits : Nat → Int32} {p0 : Int64} {p1 : Int64} {p2 : Int64} {o : Int64 × Int64 × Int64 × Int32 × Int64 × Int64} (h : f_X7_beginTurn p0 p1 p2 r_x r_y r_z r_steps r_first r_second u_quarter = some o) : Std g l yX7_beginTurn (.code yX7_beginTurn cX7_beginTurn 7 none :: gw) rm_X7_beginTurn A [.ref a0, .long p0, .long p1, .long p2] (wTurner g a0 a1 a2 a3 a4 a5 a6 r_x r_y r_z r_upBits r_steps r_first r_second u_width u_guard u_bits u_stages u_places u_near u_quarter u_eighth u_ln u_shifts u_angles u_gains u_undos u_digits) (wTurner g a0 a1 a2 a3 a4 a5 a6 o.1 o.2.1 o.2.2.1 r_upBits o.2.2.2.1 o.2.2.2.2.1 o.2.2.2.2.2 u_width u_guard u_bits u_stages u_places u_near u_quarter u_eighth u_ln u_shifts u_angles u_gains u_undos u_digits) none := by
  refine std_v (own := RX7) (by decide +kernel) rfl (Nat.le_of_ble_eq_true rfl) ?_
  intro p e s m args below meth c Q X ret H locs hP hS ls hl
  have hx := X.1
  have hb := X.2.1
  have hl : lv_has ls 7 [(0, .ref a0), (1, .long p0), (3, .long p1), (5, .long p2)] := hl
  have ret : ∀ {H : Heap} {locs : List Loc} {pc : Nat} {ls : Array Slot} {r_x : Int64} {r_y : Int64} {r_z : Int64} {r_steps : Int32} {r_first : Int64} {r_second : Int64}, some (r_x, r_y, r_z, r_steps, r_first, r_second) = some o → WP g A (wTurner g a0 a1 a2 a3 a4 a5 a6 r_x r_y r_z r_upBits r_steps r_first r_second u_width u_guard u_bits u_stages u_places u_near u_quarter u_eighth u_ln u_shifts u_angles u_gains u_undos u_digits) H → va_S A s.heap H locs → decode cX7_beginTurn pc = .ok (.return_, 1) → W p l e rm_X7_beginTurn s m args below meth c H locs 0 0 Q (F0 m pc ls []) := by
    intro H locs pc ls r_x r_y r_z r_steps r_first r_second h hP hS hd
    cases h
    exact ret hP hS hd
  unfold f_X7_beginTurn at h
  refine lv_aload_n hx hb dX7_beginTurn_0 rfl (lv_at hl 0 rfl) ?_
  refine lv_lload hx hb dX7_beginTurn_1 (lv_at hl 3 rfl) ?_
  refine lv_aload_n hx hb dX7_beginTurn_3 rfl (lv_at hl 0 rfl) ?_
  refine gf_X7_9_Turner_0 X hP dX7_beginTurn_4 ?_
  refine gf_X7_93_Turner_1 X hP dX7_beginTurn_7 ?_
  obtain ⟨o1, hco1, h⟩ := bd_of h
  refine kS (rest := [.ref a0]) X dX7_beginTurn_10 wd_3_181 mw_X7_nearest wd_3_182 hP hS (fun _ z => z) (c_X7_nearest hco1) rfl hl.1 rfl (Nat.le_of_ble_eq_true rfl) rfl rfl ⟨Nat.le_of_ble_eq_true rfl, Nat.le_of_ble_eq_true rfl⟩ (fun H locs hP _ _ hS => ?_)
  refine W.eq (g2 := F0 m 13 ls [.int o1, .ref a0]) rfl ?_
  refine pf_X7_86_Turner_0 (v0 := o1) X hP hS dX7_beginTurn_13 (fun H locs hP hS => ?_)
  refine lv_aload_n hx hb dX7_beginTurn_16 rfl (lv_at hl 0 rfl) ?_
  refine lv_lload_n hx hb dX7_beginTurn_17 rfl (lv_at hl 1 rfl) ?_
  refine lv_lload_n hx hb dX7_beginTurn_18 rfl (lv_at hl 2 rfl) ?_
  obtain ⟨o2, hco2, h⟩ := bd_of h
  refine kV (rest := []) X dX7_beginTurn_19 wd_3_228 mw_X7_turnQuarters wd_3_230 wp_4_5 hP (k0 := 0) rfl rfl rfl hS (fun _ z => z) (c_X7_turnQuarters hco2) rfl hl.1 rfl (Nat.le_of_ble_eq_true rfl) rfl rfl ⟨Nat.le_of_ble_eq_true rfl, Nat.le_of_ble_eq_true rfl⟩ (fun H locs hP _ _ hS => ?_)
  refine W.eq (g2 := F0 m 22 ls []) rfl ?_
  refine lv_aload_n hx hb dX7_beginTurn_22 rfl (lv_at hl 0 rfl) ?_
  refine lv_aload_n hx hb dX7_beginTurn_23 rfl (lv_at hl 0 rfl) ?_
  refine gf_X7_37_Turner_0 X hP dX7_beginTurn_24 ?_
  refine lv_aload_n hx hb dX7_beginTurn_27 rfl (lv_at hl 0 rfl) ?_
  refine gf_X7_41_Turner_0 X hP dX7_beginTurn_28 ?_
  refine lv_lload hx hb dX7_beginTurn_31 (lv_at hl 3 rfl) ?_
  refine lv_aload_n hx hb dX7_beginTurn_33 rfl (lv_at hl 0 rfl) ?_
  refine gf_X7_86_Turner_0 X hP dX7_beginTurn_34 ?_
  refine lv_i2l hx hb dX7_beginTurn_37 rfl ?_
  refine lv_aload_n hx hb dX7_beginTurn_38 rfl (lv_at hl 0 rfl) ?_
  refine gf_X7_9_Turner_0 X hP dX7_beginTurn_39 ?_
  refine gf_X7_93_Turner_1 X hP dX7_beginTurn_42 ?_
  refine lv_lmul hx hb dX7_beginTurn_45 ?_
  refine lv_lsub hx hb dX7_beginTurn_46 ?_
  obtain ⟨o3, hco3, h⟩ := bd_of h
  refine kV (rest := []) X dX7_beginTurn_47 wd_3_188 mw_X7_put wd_3_190 wp_3_14 hP (k0 := 0) rfl rfl rfl hS (fun _ z => z) (c_X7_put hco3) rfl hl.1 rfl (Nat.le_of_ble_eq_true rfl) rfl rfl ⟨Nat.le_of_ble_eq_true rfl, Nat.le_of_ble_eq_true rfl⟩ (fun H locs hP _ _ hS => ?_)
  refine W.eq (g2 := F0 m 50 ls []) rfl ?_
  exact ret h hP hS dX7_beginTurn_50
abbrev rm_J6_numberOfLeadingZeros_0f7a4 : Room := { frames := 0, cells := 0, slots := 0, locals := 0 }
set_option maxRecDepth 100000 in
set_option maxHeartbeats 4000000 in
theorem c_J6_numberOfLeadingZeros_0f7a4 {g : gT} {l : Launch} {A : Nat → Prop} {w : va_W} {p0 : Int32} {o : Int32} (h : f_J6_numberOfLeadingZeros_0f7a4 p0  = some o) : Std g l yJ6_numberOfLeadingZeros_0f7a4 (.code yJ6_numberOfLeadingZeros_0f7a4 cJ6_numberOfLeadingZeros_0f7a4 2 (some .int) :: gw) rm_J6_numberOfLeadingZeros_0f7a4 A [.int p0] w w (some (.int o)) := by
  refine std_i (own := RJ6) (by decide +kernel) rfl (Nat.le_of_ble_eq_true rfl) ?_
  intro p e s m args below meth c Q X ret H locs hP hS ls hl
  have hx := X.1
  have hb := X.2.1
  have hl : lv_has ls 2 [(0, .int p0)] := hl
  have ret : ∀ {H : Heap} {locs : List Loc} {pc : Nat} {ls : Array Slot} {v : Int32} , some (v) = some o → WP g A w H → va_S A s.heap H locs → decode cJ6_numberOfLeadingZeros_0f7a4 pc = .ok (.ireturn, 1) → W p l e rm_J6_numberOfLeadingZeros_0f7a4 s m args below meth c H locs 0 0 Q (F0 m pc ls [.int v]) := by
    intro H locs pc ls v h hP hS hd
    cases h
    exact ret hP hS hd
  have b73 : ∀ (x0 : Int32) (x1 : Int32) (H : Heap) (locs : List Loc) (ls : Array Slot), f_J6_numberOfLeadingZeros_0f7a4_b73    x0 x1 = some o → WP g A w H → va_S A s.heap H locs → lv_has ls 2 [(0, .int x0), (1, .int x1)] → W p l e rm_J6_numberOfLeadingZeros_0f7a4 s m args below meth c H locs 0 0 Q (F0 m 73 ls []) := by
    intro  x0 x1 H locs ls h hP hS hl
    unfold f_J6_numberOfLeadingZeros_0f7a4_b73 at h
    refine lv_iload_n hx hb dJ6_numberOfLeadingZeros_0f7a4_73 rfl (lv_at hl 1 rfl) ?_
    refine lv_iload_n hx hb dJ6_numberOfLeadingZeros_0f7a4_74 rfl (lv_at hl 0 rfl) ?_
    refine lv_iconst (v := 1) hx hb dJ6_numberOfLeadingZeros_0f7a4_75 rfl ?_
    refine lv_iushr hx hb dJ6_numberOfLeadingZeros_0f7a4_76 rfl ?_
    refine lv_isub hx hb dJ6_numberOfLeadingZeros_0f7a4_77 ?_
    exact ret h hP hS dJ6_numberOfLeadingZeros_0f7a4_78
  have b61 : ∀ (x0 : Int32) (x1 : Int32) (H : Heap) (locs : List Loc) (ls : Array Slot), f_J6_numberOfLeadingZeros_0f7a4_b61    x0 x1 = some o → WP g A w H → va_S A s.heap H locs → lv_has ls 2 [(0, .int x0), (1, .int x1)] → W p l e rm_J6_numberOfLeadingZeros_0f7a4 s m args below meth c H locs 0 0 Q (F0 m 61 ls []) := by
    intro  x0 x1 H locs ls h hP hS hl
    unfold f_J6_numberOfLeadingZeros_0f7a4_b61 at h
    refine lv_iload_n hx hb dJ6_numberOfLeadingZeros_0f7a4_61 rfl (lv_at hl 0 rfl) ?_
    refine lv_iconst (v := 4) hx hb dJ6_numberOfLeadingZeros_0f7a4_62 rfl ?_
    refine lv_icmp_lt (tgt := 73) hx hb dJ6_numberOfLeadingZeros_0f7a4_63 rfl (fun c63 => ?_) (fun c63 => ?_)
    · have h := br_p c63 h
      exact b73   x0 x1 _ _ _ h hP hS (lv_sub hl [0, 1] rfl)
    · have h := br_n c63 h
      obtain ⟨v1, ev1⟩ : ∃ z : Int32, z = (x1 + (-2)) := ⟨_, rfl⟩
      have h := lt_at ev1 h
      refine lv_iinc (v := v1) (lv' := [(1, .int v1), (0, .int x0)]) hx hb dJ6_numberOfLeadingZeros_0f7a4_66 hl (k := 1) rfl (by rw [ev1]; rfl) (by decide) rfl (fun ls hl => ?_)
      refine lv_iload_n hx hb dJ6_numberOfLeadingZeros_0f7a4_69 rfl (lv_at hl 1 rfl) ?_
      refine lv_iconst (v := 2) hx hb dJ6_numberOfLeadingZeros_0f7a4_70 rfl ?_
      refine lv_iushr hx hb dJ6_numberOfLeadingZeros_0f7a4_71 rfl ?_
      refine lv_topi (fun v2 ev2 => ?_)
      have h := lt_at ev2 h
      refine lv_istore_n (lv' := [(0, .int v2), (1, .int v1)]) hx hb dJ6_numberOfLeadingZeros_0f7a4_72 rfl hl (by decide) rfl (fun ls hl => ?_)
      exact b73   v2 v1 _ _ _ h hP hS (lv_sub hl [0, 1] rfl)
  have b48 : ∀ (x0 : Int32) (x1 : Int32) (H : Heap) (locs : List Loc) (ls : Array Slot), f_J6_numberOfLeadingZeros_0f7a4_b48    x0 x1 = some o → WP g A w H → va_S A s.heap H locs → lv_has ls 2 [(0, .int x0), (1, .int x1)] → W p l e rm_J6_numberOfLeadingZeros_0f7a4 s m args below meth c H locs 0 0 Q (F0 m 48 ls []) := by
    intro  x0 x1 H locs ls h hP hS hl
    unfold f_J6_numberOfLeadingZeros_0f7a4_b48 at h
    refine lv_iload_n hx hb dJ6_numberOfLeadingZeros_0f7a4_48 rfl (lv_at hl 0 rfl) ?_
    refine lv_bipush (v := 16) hx hb dJ6_numberOfLeadingZeros_0f7a4_49 rfl ?_
    refine lv_icmp_lt (tgt := 61) hx hb dJ6_numberOfLeadingZeros_0f7a4_51 rfl (fun c51 => ?_) (fun c51 => ?_)
    · have h := br_p c51 h
      exact b61   x0 x1 _ _ _ h hP hS (lv_sub hl [0, 1] rfl)
    · have h := br_n c51 h
      obtain ⟨v3, ev3⟩ : ∃ z : Int32, z = (x1 + (-4)) := ⟨_, rfl⟩
      have h := lt_at ev3 h
      refine lv_iinc (v := v3) (lv' := [(1, .int v3), (0, .int x0)]) hx hb dJ6_numberOfLeadingZeros_0f7a4_54 hl (k := 1) rfl (by rw [ev3]; rfl) (by decide) rfl (fun ls hl => ?_)
      refine lv_iload_n hx hb dJ6_numberOfLeadingZeros_0f7a4_57 rfl (lv_at hl 1 rfl) ?_
      refine lv_iconst (v := 4) hx hb dJ6_numberOfLeadingZeros_0f7a4_58 rfl ?_
      refine lv_iushr hx hb dJ6_numberOfLeadingZeros_0f7a4_59 rfl ?_
      refine lv_topi (fun v4 ev4 => ?_)
      have h := lt_at ev4 h
      refine lv_istore_n (lv' := [(0, .int v4), (1, .int v3)]) hx hb dJ6_numberOfLeadingZeros_0f7a4_60 rfl hl (by decide) rfl (fun ls hl => ?_)
      exact b61   v4 v3 _ _ _ h hP hS (lv_sub hl [0, 1] rfl)
  have b33 : ∀ (x0 : Int32) (x1 : Int32) (H : Heap) (locs : List Loc) (ls : Array Slot), f_J6_numberOfLeadingZeros_0f7a4_b33    x0 x1 = some o → WP g A w H → va_S A s.heap H locs → lv_has ls 2 [(0, .int x0), (1, .int x1)] → W p l e rm_J6_numberOfLeadingZeros_0f7a4 s m args below meth c H locs 0 0 Q (F0 m 33 ls []) := by
    intro  x0 x1 H locs ls h hP hS hl
    unfold f_J6_numberOfLeadingZeros_0f7a4_b33 at h
    refine lv_iload_n hx hb dJ6_numberOfLeadingZeros_0f7a4_33 rfl (lv_at hl 0 rfl) ?_
    refine lv_sipush (v := 256) hx hb dJ6_numberOfLeadingZeros_0f7a4_34 rfl ?_
    refine lv_icmp_lt (tgt := 48) hx hb dJ6_numberOfLeadingZeros_0f7a4_37 rfl (fun c37 => ?_) (fun c37 => ?_)
    · have h := br_p c37 h
      exact b48   x0 x1 _ _ _ h hP hS (lv_sub hl [0, 1] rfl)
    · have h := br_n c37 h
      obtain ⟨v5, ev5⟩ : ∃ z : Int32, z = (x1 + (-8)) := ⟨_, rfl⟩
      have h := lt_at ev5 h
      refine lv_iinc (v := v5) (lv' := [(1, .int v5), (0, .int x0)]) hx hb dJ6_numberOfLeadingZeros_0f7a4_40 hl (k := 1) rfl (by rw [ev5]; rfl) (by decide) rfl (fun ls hl => ?_)
      refine lv_iload_n hx hb dJ6_numberOfLeadingZeros_0f7a4_43 rfl (lv_at hl 1 rfl) ?_
      refine lv_bipush (v := 8) hx hb dJ6_numberOfLeadingZeros_0f7a4_44 rfl ?_
      refine lv_iushr hx hb dJ6_numberOfLeadingZeros_0f7a4_46 rfl ?_
      refine lv_topi (fun v6 ev6 => ?_)
      have h := lt_at ev6 h
      refine lv_istore_n (lv' := [(0, .int v6), (1, .int v5)]) hx hb dJ6_numberOfLeadingZeros_0f7a4_47 rfl hl (by decide) rfl (fun ls hl => ?_)
      exact b48   v6 v5 _ _ _ h hP hS (lv_sub hl [0, 1] rfl)
  unfold f_J6_numberOfLeadingZeros_0f7a4 at h
  refine lv_iload_n hx hb dJ6_numberOfLeadingZeros_0f7a4_0 rfl (lv_at hl 0 rfl) ?_
  refine lv_if_gt (tgt := 15) hx hb dJ6_numberOfLeadingZeros_0f7a4_1 rfl (fun c1 => ?_) (fun c1 => ?_)
  · have h := br_p c1 h
    refine lv_bipush (v := 31) hx hb dJ6_numberOfLeadingZeros_0f7a4_15 rfl ?_
    refine lv_istore_n (lv' := [(1, .int 31), (0, .int p0)]) hx hb dJ6_numberOfLeadingZeros_0f7a4_17 rfl hl (by decide) rfl (fun ls hl => ?_)
    refine lv_iload_n hx hb dJ6_numberOfLeadingZeros_0f7a4_18 rfl (lv_at hl 1 rfl) ?_
    refine lv_ldcw (v := 65536) hx hb X.2.2.2.1 (X.2.2.2.2.1 _ wd_3_215) dJ6_numberOfLeadingZeros_0f7a4_19 ?_
    refine lv_icmp_lt (tgt := 33) hx hb dJ6_numberOfLeadingZeros_0f7a4_22 rfl (fun c22 => ?_) (fun c22 => ?_)
    · have h := br_p c22 h
      exact b33   p0 (31 : Int32) _ _ _ h hP hS (lv_sub hl [1, 0] rfl)
    · have h := br_n c22 h
      obtain ⟨v7, ev7⟩ : ∃ z : Int32, z = ((31 : Int32) + (-16)) := ⟨_, rfl⟩
      have h := lt_at ev7 h
      refine lv_iinc (v := v7) (lv' := [(1, .int v7), (0, .int p0)]) hx hb dJ6_numberOfLeadingZeros_0f7a4_25 hl (k := 0) rfl (by rw [ev7]; rfl) (by decide) rfl (fun ls hl => ?_)
      refine lv_iload_n hx hb dJ6_numberOfLeadingZeros_0f7a4_28 rfl (lv_at hl 1 rfl) ?_
      refine lv_bipush (v := 16) hx hb dJ6_numberOfLeadingZeros_0f7a4_29 rfl ?_
      refine lv_iushr hx hb dJ6_numberOfLeadingZeros_0f7a4_31 rfl ?_
      refine lv_topi (fun v8 ev8 => ?_)
      have h := lt_at ev8 h
      refine lv_istore_n (lv' := [(0, .int v8), (1, .int v7)]) hx hb dJ6_numberOfLeadingZeros_0f7a4_32 rfl hl (by decide) rfl (fun ls hl => ?_)
      exact b33   v8 v7 _ _ _ h hP hS (lv_sub hl [0, 1] rfl)
  · have h := br_n c1 h
    refine lv_iload_n hx hb dJ6_numberOfLeadingZeros_0f7a4_4 rfl (lv_at hl 0 rfl) ?_
    refine jx1 h (P := fun (v9 : Int32) => ∀ ls : Array Slot, lv_has ls 2 [] → W p l e rm_J6_numberOfLeadingZeros_0f7a4 s m args below meth c H locs 0 0 Q (F0 m 14 ls [.int v9])) ?_ ?_
    · intro v9 h ls hl
      exact ret h hP hS dJ6_numberOfLeadingZeros_0f7a4_14
    · intro J h
      refine lv_if_ne (tgt := 13) hx hb dJ6_numberOfLeadingZeros_0f7a4_5 rfl (fun c5 => ?_) (fun c5 => ?_)
      · refine lv_iconst (v := 0) hx hb dJ6_numberOfLeadingZeros_0f7a4_13 rfl ?_
        exact J _ (lt_in c5 h) ls (lv_sub hl [] rfl)
      · refine lv_bipush (v := 32) hx hb dJ6_numberOfLeadingZeros_0f7a4_8 rfl ?_
        refine lv_goto (tgt := 14) hx hb dJ6_numberOfLeadingZeros_0f7a4_10 rfl ?_
        exact J _ (lt_ip c5 h) ls (lv_sub hl [] rfl)
abbrev rm_J13_numberOfLeadingZeros_95d88 : Room := { frames := 1, cells := 0, slots := 0, locals := 21 }
set_option maxRecDepth 100000 in
set_option maxHeartbeats 4000000 in
theorem c_J13_numberOfLeadingZeros_95d88 {g : gT} {l : Launch} {A : Nat → Prop} {w : va_W} {p0 : Int64} {o : Int32} (h : f_J13_numberOfLeadingZeros_95d88 p0  = some o) : Std g l yJ13_numberOfLeadingZeros_95d88 (.code yJ13_numberOfLeadingZeros_95d88 cJ13_numberOfLeadingZeros_95d88 3 (some .int) :: gw) rm_J13_numberOfLeadingZeros_95d88 A [.long p0] w w (some (.int o)) := by
  refine std_i (own := RJ13) (by decide +kernel) rfl (Nat.le_of_ble_eq_true rfl) ?_
  intro p e s m args below meth c Q X ret H locs hP hS ls hl
  have hx := X.1
  have hb := X.2.1
  have hl : lv_has ls 3 [(0, .long p0)] := hl
  have ret : ∀ {H : Heap} {locs : List Loc} {pc : Nat} {ls : Array Slot} {v : Int32} , some (v) = some o → WP g A w H → va_S A s.heap H locs → decode cJ13_numberOfLeadingZeros_95d88 pc = .ok (.ireturn, 1) → W p l e rm_J13_numberOfLeadingZeros_95d88 s m args below meth c H locs 0 0 Q (F0 m pc ls [.int v]) := by
    intro H locs pc ls v h hP hS hd
    cases h
    exact ret hP hS hd
  unfold f_J13_numberOfLeadingZeros_95d88 at h
  refine lv_lload_n hx hb dJ13_numberOfLeadingZeros_95d88_0 rfl (lv_at hl 0 rfl) ?_
  refine lv_bipush (v := 32) hx hb dJ13_numberOfLeadingZeros_95d88_1 rfl ?_
  refine lv_lushr hx hb dJ13_numberOfLeadingZeros_95d88_3 rfl ?_
  refine lv_l2i hx hb dJ13_numberOfLeadingZeros_95d88_4 rfl ?_
  refine lv_topi (fun v1 ev1 => ?_)
  have h := lt_at ev1 h
  refine lv_istore_n (lv' := [(2, .int v1), (0, .long p0)]) hx hb dJ13_numberOfLeadingZeros_95d88_5 rfl hl (by decide) rfl (fun ls hl => ?_)
  refine lv_iload_n hx hb dJ13_numberOfLeadingZeros_95d88_6 rfl (lv_at hl 0 rfl) ?_
  refine lv_if_ne (tgt := 21) hx hb dJ13_numberOfLeadingZeros_95d88_7 rfl (fun c7 => ?_) (fun c7 => ?_)
  · have h := br_n c7 h
    refine lv_iload_n hx hb dJ13_numberOfLeadingZeros_95d88_21 rfl (lv_at hl 0 rfl) ?_
    obtain ⟨o2, hco2, h⟩ := bd_of h
    refine kS (rest := []) X dJ13_numberOfLeadingZeros_95d88_22 wd_3_212 mw_J6_numberOfLeadingZeros_0f7a4 wd_3_213 hP hS (fun _ z => z) (c_J6_numberOfLeadingZeros_0f7a4 hco2) rfl hl.1 rfl (Nat.le_of_ble_eq_true rfl) rfl rfl ⟨Nat.le_of_ble_eq_true rfl, Nat.le_of_ble_eq_true rfl⟩ (fun H locs hP _ _ hS => ?_)
    refine W.eq (g2 := F0 m 25 ls [.int o2]) rfl ?_
    exact ret h hP hS dJ13_numberOfLeadingZeros_95d88_25
  · have h := br_p c7 h
    refine lv_bipush (v := 32) hx hb dJ13_numberOfLeadingZeros_95d88_10 rfl ?_
    refine lv_lload_n hx hb dJ13_numberOfLeadingZeros_95d88_12 rfl (lv_at hl 1 rfl) ?_
    refine lv_l2i hx hb dJ13_numberOfLeadingZeros_95d88_13 rfl ?_
    obtain ⟨o3, hco3, h⟩ := bd_of h
    refine kS (rest := [.int 32]) X dJ13_numberOfLeadingZeros_95d88_14 wd_3_212 mw_J6_numberOfLeadingZeros_0f7a4 wd_3_213 hP hS (fun _ z => z) (c_J6_numberOfLeadingZeros_0f7a4 hco3) rfl hl.1 rfl (Nat.le_of_ble_eq_true rfl) rfl rfl ⟨Nat.le_of_ble_eq_true rfl, Nat.le_of_ble_eq_true rfl⟩ (fun H locs hP _ _ hS => ?_)
    refine W.eq (g2 := F0 m 17 ls [.int o3, .int 32]) rfl ?_
    refine lv_iadd hx hb dJ13_numberOfLeadingZeros_95d88_17 ?_
    refine lv_goto (tgt := 25) hx hb dJ13_numberOfLeadingZeros_95d88_18 rfl ?_
    exact ret h hP hS dJ13_numberOfLeadingZeros_95d88_25
abbrev rm_X7_powerOf : Room := { frames := 2, cells := 0, slots := 0, locals := 43 }
set_option maxRecDepth 100000 in
set_option maxHeartbeats 4000000 in
theorem c_X7_powerOf {g : gT} {l : Launch} {A : Nat → Prop} {w : va_W} {p0 : Int64} {o : Int32} (h : f_X7_powerOf p0  = some o) : Std g l yX7_powerOf (.code yX7_powerOf cX7_powerOf 2 (some .int) :: gw) rm_X7_powerOf A [.long p0] w w (some (.int o)) := by
  refine std_i (own := RX7) (by decide +kernel) rfl (Nat.le_of_ble_eq_true rfl) ?_
  intro p e s m args below meth c Q X ret H locs hP hS ls hl
  have hx := X.1
  have hb := X.2.1
  have hl : lv_has ls 2 [(0, .long p0)] := hl
  have ret : ∀ {H : Heap} {locs : List Loc} {pc : Nat} {ls : Array Slot} {v : Int32} , some (v) = some o → WP g A w H → va_S A s.heap H locs → decode cX7_powerOf pc = .ok (.ireturn, 1) → W p l e rm_X7_powerOf s m args below meth c H locs 0 0 Q (F0 m pc ls [.int v]) := by
    intro H locs pc ls v h hP hS hd
    cases h
    exact ret hP hS hd
  unfold f_X7_powerOf at h
  refine lv_bipush (v := 63) hx hb dX7_powerOf_0 rfl ?_
  refine lv_lload_n hx hb dX7_powerOf_2 rfl (lv_at hl 0 rfl) ?_
  obtain ⟨o1, hco1, h⟩ := bd_of h
  refine kS (rest := [.int 63]) X dX7_powerOf_3 wd_3_209 mw_J13_numberOfLeadingZeros_95d88 wd_3_210 hP hS (fun _ z => z) (c_J13_numberOfLeadingZeros_95d88 hco1) rfl hl.1 rfl (Nat.le_of_ble_eq_true rfl) rfl rfl ⟨Nat.le_of_ble_eq_true rfl, Nat.le_of_ble_eq_true rfl⟩ (fun H locs hP _ _ hS => ?_)
  refine W.eq (g2 := F0 m 6 ls [.int o1, .int 63]) rfl ?_
  refine lv_isub hx hb dX7_powerOf_6 ?_
  exact ret h hP hS dX7_powerOf_7
abbrev rm_X8_scaled : Room := { frames := 1, cells := 0, slots := 0, locals := 23 }
set_option maxRecDepth 100000 in
set_option maxHeartbeats 4000000 in
theorem c_X8_scaled {g : gT} {l : Launch} {A : Nat → Prop} {a0 a1 a2 a3 a4 a5 : Nat} {u_width : Int32} {u_guard : Int32} {u_bits : Int32} {u_stages : Int32} {u_places : Int32} {u_near : Bool} {u_quarter : Int64} {u_eighth : Int64} {u_ln : Int64} {u_shifts : Nat → Int32} {u_angles : Nat → Int64} {u_gains : Nat → Int64} {u_undos : Nat → Int64} {u_digits : Nat → Int32} {p0 : Int64} {p1 : Int32} {o : Int64} (h : f_X8_scaled p0 p1 u_near = some o) : Std g l yX8_scaled (.code yX8_scaled cX8_scaled 4 (some .long) :: gw) rm_X8_scaled A [.ref a0, .long p0, .int p1] (wUnit g a0 a1 a2 a3 a4 a5 u_width u_guard u_bits u_stages u_places u_near u_quarter u_eighth u_ln u_shifts u_angles u_gains u_undos u_digits) (wUnit g a0 a1 a2 a3 a4 a5 u_width u_guard u_bits u_stages u_places u_near u_quarter u_eighth u_ln u_shifts u_angles u_gains u_undos u_digits) (some (.long o)) := by
  refine std_l (own := RX8) (by decide +kernel) rfl (Nat.le_of_ble_eq_true rfl) ?_
  intro p e s m args below meth c Q X ret H locs hP hS ls hl
  have hx := X.1
  have hb := X.2.1
  have hl : lv_has ls 4 [(0, .ref a0), (1, .long p0), (3, .int p1)] := hl
  have ret : ∀ {H : Heap} {locs : List Loc} {pc : Nat} {ls : Array Slot} {v : Int64} , some (v) = some o → WP g A (wUnit g a0 a1 a2 a3 a4 a5 u_width u_guard u_bits u_stages u_places u_near u_quarter u_eighth u_ln u_shifts u_angles u_gains u_undos u_digits) H → va_S A s.heap H locs → decode cX8_scaled pc = .ok (.lreturn, 1) → W p l e rm_X8_scaled s m args below meth c H locs 0 0 Q (F0 m pc ls [.long v]) := by
    intro H locs pc ls v h hP hS hd
    cases h
    exact ret hP hS hd
  unfold f_X8_scaled at h
  refine lv_iload_n hx hb dX8_scaled_0 rfl (lv_at hl 2 rfl) ?_
  refine lv_if_lt (tgt := 10) hx hb dX8_scaled_1 rfl (fun c1 => ?_) (fun c1 => ?_)
  · have h := br_p c1 h
    refine lv_aload_n hx hb dX8_scaled_10 rfl (lv_at hl 0 rfl) ?_
    refine lv_lload_n hx hb dX8_scaled_11 rfl (lv_at hl 1 rfl) ?_
    refine lv_iload_n hx hb dX8_scaled_12 rfl (lv_at hl 2 rfl) ?_
    refine lv_ineg hx hb dX8_scaled_13 ?_
    obtain ⟨o1, hco1, h⟩ := bd_of h
    refine kV (rest := []) X dX8_scaled_14 wd_3_133 mw_X8_shifted wd_3_135 wp_3_7 hP (k0 := 0) rfl rfl rfl hS (fun _ z => z) (c_X8_shifted hco1) rfl hl.1 rfl (Nat.le_of_ble_eq_true rfl) rfl rfl ⟨Nat.le_of_ble_eq_true rfl, Nat.le_of_ble_eq_true rfl⟩ (fun H locs hP _ _ hS => ?_)
    refine W.eq (g2 := F0 m 17 ls [.long o1]) rfl ?_
    exact ret h hP hS dX8_scaled_17
  · have h := br_n c1 h
    refine lv_lload_n hx hb dX8_scaled_4 rfl (lv_at hl 1 rfl) ?_
    refine lv_iload_n hx hb dX8_scaled_5 rfl (lv_at hl 2 rfl) ?_
    refine lv_lshl hx hb dX8_scaled_6 rfl ?_
    refine lv_goto (tgt := 17) hx hb dX8_scaled_7 rfl ?_
    exact ret h hP hS dX8_scaled_17
abbrev rm_X7_beginApart : Room := { frames := 1, cells := 0, slots := 0, locals := 26 }
set_option maxRecDepth 100000 in
set_option maxHeartbeats 4000000 in
theorem c_X7_beginApart {g : gT} {l : Launch} {A : Nat → Prop} {a0 a1 a2 a3 a4 a5 a6 : Nat} {r_x : Int64} {r_y : Int64} {r_z : Int64} {r_upBits : Int32} {r_steps : Int32} {r_first : Int64} {r_second : Int64} {u_width : Int32} {u_guard : Int32} {u_bits : Int32} {u_stages : Int32} {u_places : Int32} {u_near : Bool} {u_quarter : Int64} {u_eighth : Int64} {u_ln : Int64} {u_shifts : Nat → Int32} {u_angles : Nat → Int64} {u_gains : Nat → Int64} {u_undos : Nat → Int64} {u_digits : Nat → Int32} {p0 : Int64} {p1 : Int64} {o : Int64 × Int64 × Int64} (h : f_X7_beginApart p0 p1 r_x r_y r_z = some o) : Std g l yX7_beginApart (.code yX7_beginApart cX7_beginApart 5 none :: gw) rm_X7_beginApart A [.ref a0, .long p0, .long p1] (wTurner g a0 a1 a2 a3 a4 a5 a6 r_x r_y r_z r_upBits r_steps r_first r_second u_width u_guard u_bits u_stages u_places u_near u_quarter u_eighth u_ln u_shifts u_angles u_gains u_undos u_digits) (wTurner g a0 a1 a2 a3 a4 a5 a6 o.1 o.2.1 o.2.2 r_upBits r_steps r_first r_second u_width u_guard u_bits u_stages u_places u_near u_quarter u_eighth u_ln u_shifts u_angles u_gains u_undos u_digits) none := by
  refine std_v (own := RX7) (by decide +kernel) rfl (Nat.le_of_ble_eq_true rfl) ?_
  intro p e s m args below meth c Q X ret H locs hP hS ls hl
  have hx := X.1
  have hb := X.2.1
  have hl : lv_has ls 5 [(0, .ref a0), (1, .long p0), (3, .long p1)] := hl
  have ret : ∀ {H : Heap} {locs : List Loc} {pc : Nat} {ls : Array Slot} {r_x : Int64} {r_y : Int64} {r_z : Int64}, some (r_x, r_y, r_z) = some o → WP g A (wTurner g a0 a1 a2 a3 a4 a5 a6 r_x r_y r_z r_upBits r_steps r_first r_second u_width u_guard u_bits u_stages u_places u_near u_quarter u_eighth u_ln u_shifts u_angles u_gains u_undos u_digits) H → va_S A s.heap H locs → decode cX7_beginApart pc = .ok (.return_, 1) → W p l e rm_X7_beginApart s m args below meth c H locs 0 0 Q (F0 m pc ls []) := by
    intro H locs pc ls r_x r_y r_z h hP hS hd
    cases h
    exact ret hP hS hd
  unfold f_X7_beginApart at h
  refine lv_aload_n hx hb dX7_beginApart_0 rfl (lv_at hl 0 rfl) ?_
  refine lv_lload_n hx hb dX7_beginApart_1 rfl (lv_at hl 1 rfl) ?_
  refine lv_lload_n hx hb dX7_beginApart_2 rfl (lv_at hl 2 rfl) ?_
  refine lv_ladd hx hb dX7_beginApart_3 ?_
  refine lv_lload_n hx hb dX7_beginApart_4 rfl (lv_at hl 1 rfl) ?_
  refine lv_lload_n hx hb dX7_beginApart_5 rfl (lv_at hl 2 rfl) ?_
  refine lv_lsub hx hb dX7_beginApart_6 ?_
  refine lv_lconst (v := 0) hx hb dX7_beginApart_7 rfl ?_
  obtain ⟨o1, hco1, h⟩ := bd_of h
  refine kV (rest := []) X dX7_beginApart_8 wd_3_188 mw_X7_put wd_3_190 wp_3_14 hP (k0 := 0) rfl rfl rfl hS (fun _ z => z) (c_X7_put hco1) rfl hl.1 rfl (Nat.le_of_ble_eq_true rfl) rfl rfl ⟨Nat.le_of_ble_eq_true rfl, Nat.le_of_ble_eq_true rfl⟩ (fun H locs hP _ _ hS => ?_)
  refine W.eq (g2 := F0 m 11 ls []) rfl ?_
  exact ret h hP hS dX7_beginApart_11
abbrev rm_X7_begin : Room := { frames := 3, cells := 0, slots := 0, locals := 74 }
set_option maxRecDepth 100000 in
set_option maxHeartbeats 4000000 in
theorem c_X7_begin {g : gT} {l : Launch} {A : Nat → Prop} {a0 a1 a2 a3 a4 a5 a6 : Nat} {r_x : Int64} {r_y : Int64} {r_z : Int64} {r_upBits : Int32} {r_steps : Int32} {r_first : Int64} {r_second : Int64} {u_width : Int32} {u_guard : Int32} {u_bits : Int32} {u_stages : Int32} {u_places : Int32} {u_near : Bool} {u_quarter : Int64} {u_eighth : Int64} {u_ln : Int64} {u_shifts : Nat → Int32} {u_angles : Nat → Int64} {u_gains : Nat → Int64} {u_undos : Nat → Int64} {u_digits : Nat → Int32} {p0 : Int32} {p1 : Int64} {p2 : Int64} {p3 : Int64} {o : Int64 × Int64 × Int64 × Int32 × Int32 × Int64 × Int64} (h : f_X7_begin p0 p1 p2 p3 r_x r_y r_z r_upBits r_steps r_first r_second u_guard u_bits u_near u_quarter u_ln u_undos = some o) : Std g l yX7_begin (.code yX7_begin cX7_begin 14 none :: gw) rm_X7_begin A [.ref a0, .int p0, .long p1, .long p2, .long p3] (wTurner g a0 a1 a2 a3 a4 a5 a6 r_x r_y r_z r_upBits r_steps r_first r_second u_width u_guard u_bits u_stages u_places u_near u_quarter u_eighth u_ln u_shifts u_angles u_gains u_undos u_digits) (wTurner g a0 a1 a2 a3 a4 a5 a6 o.1 o.2.1 o.2.2.1 o.2.2.2.1 o.2.2.2.2.1 o.2.2.2.2.2.1 o.2.2.2.2.2.2 u_width u_guard u_bits u_stages u_places u_near u_quarter u_eighth u_ln u_shifts u_angles u_gains u_undos u_digits) none := by
  refine std_v (own := RX7) (by decide +kernel) rfl (Nat.le_of_ble_eq_true rfl) ?_
  intro p e s m args below meth c Q X ret H locs hP hS ls hl
  have hx := X.1
  have hb := X.2.1
  have hl : lv_has ls 14 [(0, .ref a0), (1, .int p0), (2, .long p1), (4, .long p2), (6, .long p3)] := hl
  have ret : ∀ {H : Heap} {locs : List Loc} {pc : Nat} {ls : Array Slot} {r_x : Int64} {r_y : Int64} {r_z : Int64} {r_upBits : Int32} {r_steps : Int32} {r_first : Int64} {r_second : Int64}, some (r_x, r_y, r_z, r_upBits, r_steps, r_first, r_second) = some o → WP g A (wTurner g a0 a1 a2 a3 a4 a5 a6 r_x r_y r_z r_upBits r_steps r_first r_second u_width u_guard u_bits u_stages u_places u_near u_quarter u_eighth u_ln u_shifts u_angles u_gains u_undos u_digits) H → va_S A s.heap H locs → decode cX7_begin pc = .ok (.return_, 1) → W p l e rm_X7_begin s m args below meth c H locs 0 0 Q (F0 m pc ls []) := by
    intro H locs pc ls r_x r_y r_z r_upBits r_steps r_first r_second h hP hS hd
    cases h
    exact ret hP hS hd
  have b300 : ∀ (x6 : Int64) (x8 : Int64) (x10 : Int64) (r_x : Int64) (r_y : Int64) (r_z : Int64) (r_upBits : Int32) (r_steps : Int32) (r_first : Int64) (r_second : Int64) (H : Heap) (locs : List Loc) (ls : Array Slot), f_X7_begin_b300  u_guard u_bits u_near u_quarter u_ln u_undos  x6 x8 x10 r_x r_y r_z r_upBits r_steps r_first r_second = some o → WP g A (wTurner g a0 a1 a2 a3 a4 a5 a6 r_x r_y r_z r_upBits r_steps r_first r_second u_width u_guard u_bits u_stages u_places u_near u_quarter u_eighth u_ln u_shifts u_angles u_gains u_undos u_digits) H → va_S A s.heap H locs → lv_has ls 14 [(0, .ref a0), (6, .long x6), (8, .long x8), (10, .long x10)] → W p l e rm_X7_begin s m args below meth c H locs 0 0 Q (F0 m 300 ls []) := by
    intro  x6 x8 x10 r_x r_y r_z r_upBits r_steps r_first r_second H locs ls h hP hS hl
    unfold f_X7_begin_b300 at h
    refine lv_aload_n hx hb dX7_begin_300 rfl (lv_at hl 0 rfl) ?_
    refine lv_lload hx hb dX7_begin_301 (lv_at hl 2 rfl) ?_
    refine lv_lload hx hb dX7_begin_303 (lv_at hl 3 rfl) ?_
    refine lv_lload hx hb dX7_begin_305 (lv_at hl 1 rfl) ?_
    refine lv_aload_n hx hb dX7_begin_307 rfl (lv_at hl 0 rfl) ?_
    refine gf_X7_9_Turner_0 X hP dX7_begin_308 ?_
    refine gf_X7_77_Turner_1 X hP dX7_begin_311 ?_
    refine lv_lshl hx hb dX7_begin_314 rfl ?_
    obtain ⟨o10, hco10, h⟩ := bd_of h
    refine kV (rest := []) X dX7_begin_315 wd_3_224 mw_X7_beginTurn wd_3_226 wp_4_4 hP (k0 := 0) rfl rfl rfl hS (fun _ z => z) (c_X7_beginTurn hco10) rfl hl.1 rfl (Nat.le_of_ble_eq_true rfl) rfl rfl ⟨Nat.le_of_ble_eq_true rfl, Nat.le_of_ble_eq_true rfl⟩ (fun H locs hP _ _ hS => ?_)
    refine W.eq (g2 := F0 m 318 ls []) rfl ?_
    exact ret h hP hS dX7_begin_318
  unfold f_X7_begin at h
  refine lv_lload_n hx hb dX7_begin_0 rfl (lv_at hl 2 rfl) ?_
  refine lv_aload_n hx hb dX7_begin_1 rfl (lv_at hl 0 rfl) ?_
  refine gf_X7_9_Turner_0 X hP dX7_begin_2 ?_
  refine gf_X7_77_Turner_1 X hP dX7_begin_5 ?_
  refine lv_lshl hx hb dX7_begin_8 rfl ?_
  refine lv_topl (fun v1 ev1 => ?_)
  have h := lt_at ev1 h
  refine lv_lstore (lv' := [(8, .long v1), (0, .ref a0), (1, .int p0), (2, .long p1), (4, .long p2), (6, .long p3)]) hx hb dX7_begin_9 hl (by decide) rfl (fun ls hl => ?_)
  refine lv_lload hx hb dX7_begin_11 (lv_at hl 4 rfl) ?_
  refine lv_aload_n hx hb dX7_begin_13 rfl (lv_at hl 1 rfl) ?_
  refine gf_X7_9_Turner_0 X hP dX7_begin_14 ?_
  refine gf_X7_77_Turner_1 X hP dX7_begin_17 ?_
  refine lv_lshl hx hb dX7_begin_20 rfl ?_
  refine lv_topl (fun v2 ev2 => ?_)
  have h := lt_at ev2 h
  refine lv_lstore (lv' := [(10, .long v2), (8, .long v1), (0, .ref a0), (1, .int p0), (2, .long p1), (4, .long p2), (6, .long p3)]) hx hb dX7_begin_21 hl (by decide) rfl (fun ls hl => ?_)
  refine lv_lconst (v := 1) hx hb dX7_begin_23 rfl ?_
  refine lv_aload_n hx hb dX7_begin_24 rfl (lv_at hl 2 rfl) ?_
  refine gf_X7_9_Turner_0 X hP dX7_begin_25 ?_
  refine gf_X7_80_Turner_1 X hP dX7_begin_28 ?_
  refine lv_lshl hx hb dX7_begin_31 rfl ?_
  refine lv_topl (fun v3 ev3 => ?_)
  have h := lt_at ev3 h
  refine lv_lstore (lv' := [(12, .long v3), (10, .long v2), (8, .long v1), (0, .ref a0), (1, .int p0), (2, .long p1), (4, .long p2), (6, .long p3)]) hx hb dX7_begin_32 hl (by decide) rfl (fun ls hl => ?_)
  refine lv_aload_n hx hb dX7_begin_34 rfl (lv_at hl 3 rfl) ?_
  refine lv_iconst (v := 0) hx hb dX7_begin_35 rfl ?_
  refine pf_X7_83_Turner_0 (v0 := (0 : Int32)) X hP hS dX7_begin_36 (fun H locs hP hS => ?_)
  refine lv_aload_n hx hb dX7_begin_39 rfl (lv_at hl 3 rfl) ?_
  refine lv_iconst (v := 0) hx hb dX7_begin_40 rfl ?_
  refine pf_X7_86_Turner_0 (v0 := (0 : Int32)) X hP hS dX7_begin_41 (fun H locs hP hS => ?_)
  refine sgO X hS (sfX X).2.2.1 wd_3_157 dX7_begin_44 ?_
  refine sgN X hS (sfX X).1 wd_3_159 dX7_begin_47 ?_
  refine lv_iload_n hx hb dX7_begin_50 rfl (lv_at hl 4 rfl) ?_
  obtain ⟨hi51, h⟩ := gv_of h
  refine stq X hS (sfX X).2.2.2.2.2.2.2.1 hi51 dX7_begin_51 ?_
  refine W.eq (g2 := F0 m 52 ls [.ref (g.2 (20 + (p0).toNatClampNeg)), .ref (g.2 7)]) rfl ?_
  refine ord_row (E := "TurnShifts$Kind") (rest := [.ref (g.2 7)]) X hl.1 hS ((sfX X).2.2.2.2.2.2.2.2.2.2.2.2.1 _ (vin_lt hi51)).1 ((sfX X).2.2.2.2.2.2.2.2.2.2.2.2.1 _ (vin_lt hi51)).2.1 wd_3_160 wd_3_161 wd_3_162 (Nat.le_of_ble_eq_true rfl) (Nat.le_of_ble_eq_true rfl) dX7_begin_52 (Nat.le_of_ble_eq_true rfl) ?_
  refine W.eq (g2 := F0 m 55 ls [.int (Int32.ofNat (p0).toNatClampNeg), .ref (g.2 7)]) rfl ?_
  obtain ⟨hi55, h⟩ := gv_of h
  refine sti X hS (sfX X).2.2.2.2.2.2.2.2.2.1 hi55 dX7_begin_55 ?_
  refine W.eq (g2 := F0 m 56 ls [.int (swK ((Int32.ofNat (p0).toNatClampNeg)).toNatClampNeg)]) rfl ?_
  by_cases c56_1 : (swK ((Int32.ofNat (p0).toNatClampNeg)).toNatClampNeg) = 1
  · have h := br_p c56_1 h
    refine lv_tableIn (off := 52) (tgt := 108) hx hb dX7_begin_56 (by rw [c56_1]; decide) (by rw [c56_1]; decide) (by rw [c56_1]; rfl) rfl ?_
    refine lv_aload_n hx hb dX7_begin_108 rfl (lv_at hl 3 rfl) ?_
    refine lv_aload_n hx hb dX7_begin_109 rfl (lv_at hl 3 rfl) ?_
    refine gf_X7_9_Turner_0 X hP dX7_begin_110 ?_
    refine gf_X7_89_Turner_1 X hP dX7_begin_113 ?_
    refine lv_iconst (v := 0) hx hb dX7_begin_116 rfl ?_
    obtain ⟨hi117, h⟩ := gv_of h
    refine al_Turner_5 X hP hi117 dX7_begin_117 ?_
    refine lv_lload hx hb dX7_begin_118 (lv_at hl 2 rfl) ?_
    refine lv_aload_n hx hb dX7_begin_120 rfl (lv_at hl 3 rfl) ?_
    refine gf_X7_9_Turner_0 X hP dX7_begin_121 ?_
    refine gf_X7_93_Turner_1 X hP dX7_begin_124 ?_
    obtain ⟨o4, hco4, h⟩ := bd_of h
    refine kV (rest := []) X dX7_begin_127 wd_3_177 mw_X7_beginNear wd_3_179 wp_3_13 hP (k0 := 0) rfl rfl rfl hS (fun _ z => z) (c_X7_beginNear hco4) rfl hl.1 rfl (Nat.le_of_ble_eq_true rfl) rfl rfl ⟨Nat.le_of_ble_eq_true rfl, Nat.le_of_ble_eq_true rfl⟩ (fun H locs hP _ _ hS => ?_)
    refine W.eq (g2 := F0 m 130 ls []) rfl ?_
    refine lv_goto (tgt := 318) hx hb dX7_begin_130 rfl ?_
    exact ret h hP hS dX7_begin_318
  have h := br_n c56_1 h
  by_cases c56_2 : (swK ((Int32.ofNat (p0).toNatClampNeg)).toNatClampNeg) = 2
  · have h := br_p c56_2 h
    refine lv_tableIn (off := 77) (tgt := 133) hx hb dX7_begin_56 (by rw [c56_2]; decide) (by rw [c56_2]; decide) (by rw [c56_2]; rfl) rfl ?_
    refine lv_aload_n hx hb dX7_begin_133 rfl (lv_at hl 3 rfl) ?_
    refine lv_lload hx hb dX7_begin_134 (lv_at hl 2 rfl) ?_
    refine lv_lload hx hb dX7_begin_136 (lv_at hl 1 rfl) ?_
    obtain ⟨o5, hco5, h⟩ := bd_of h
    refine kV (rest := []) X dX7_begin_138 wd_3_192 mw_X7_beginPolar wd_3_194 wp_3_15 hP (k0 := 0) rfl rfl rfl hS (fun _ z => z) (c_X7_beginPolar hco5) rfl hl.1 rfl (Nat.le_of_ble_eq_true rfl) rfl rfl ⟨Nat.le_of_ble_eq_true rfl, Nat.le_of_ble_eq_true rfl⟩ (fun H locs hP _ _ hS => ?_)
    refine W.eq (g2 := F0 m 141 ls []) rfl ?_
    refine lv_goto (tgt := 318) hx hb dX7_begin_141 rfl ?_
    exact ret h hP hS dX7_begin_318
  have h := br_n c56_2 h
  by_cases c56_3 : (swK ((Int32.ofNat (p0).toNatClampNeg)).toNatClampNeg) = 3
  · have h := br_p c56_3 h
    refine lv_tableIn (off := 88) (tgt := 144) hx hb dX7_begin_56 (by rw [c56_3]; decide) (by rw [c56_3]; decide) (by rw [c56_3]; rfl) rfl ?_
    refine lv_aload_n hx hb dX7_begin_144 rfl (lv_at hl 3 rfl) ?_
    refine lv_lload hx hb dX7_begin_145 (lv_at hl 2 rfl) ?_
    refine lv_lload hx hb dX7_begin_147 (lv_at hl 1 rfl) ?_
    obtain ⟨o6, hco6, h⟩ := bd_of h
    refine kV (rest := []) X dX7_begin_149 wd_3_197 mw_X7_beginTimes wd_3_199 wp_4_0 hP (k0 := 0) rfl rfl rfl hS (fun _ z => z) (c_X7_beginTimes hco6) rfl hl.1 rfl (Nat.le_of_ble_eq_true rfl) rfl rfl ⟨Nat.le_of_ble_eq_true rfl, Nat.le_of_ble_eq_true rfl⟩ (fun H locs hP _ _ hS => ?_)
    refine W.eq (g2 := F0 m 152 ls []) rfl ?_
    refine lv_goto (tgt := 318) hx hb dX7_begin_152 rfl ?_
    exact ret h hP hS dX7_begin_318
  have h := br_n c56_3 h
  by_cases c56_4 : (swK ((Int32.ofNat (p0).toNatClampNeg)).toNatClampNeg) = 4
  · have h := br_p c56_4 h
    refine lv_tableIn (off := 99) (tgt := 155) hx hb dX7_begin_56 (by rw [c56_4]; decide) (by rw [c56_4]; decide) (by rw [c56_4]; rfl) rfl ?_
    refine lv_aload_n hx hb dX7_begin_155 rfl (lv_at hl 3 rfl) ?_
    refine lv_lload hx hb dX7_begin_156 (lv_at hl 2 rfl) ?_
    refine lv_lload hx hb dX7_begin_158 (lv_at hl 1 rfl) ?_
    obtain ⟨o7, hco7, h⟩ := bd_of h
    refine kV (rest := []) X dX7_begin_160 wd_3_202 mw_X7_beginOver wd_3_204 wp_4_1 hP (k0 := 0) rfl rfl rfl hS (fun _ z => z) (c_X7_beginOver hco7) rfl hl.1 rfl (Nat.le_of_ble_eq_true rfl) rfl rfl ⟨Nat.le_of_ble_eq_true rfl, Nat.le_of_ble_eq_true rfl⟩ (fun H locs hP _ _ hS => ?_)
    refine W.eq (g2 := F0 m 163 ls []) rfl ?_
    refine lv_goto (tgt := 318) hx hb dX7_begin_163 rfl ?_
    exact ret h hP hS dX7_begin_318
  have h := br_n c56_4 h
  by_cases c56_5 : (swK ((Int32.ofNat (p0).toNatClampNeg)).toNatClampNeg) = 5
  · have h := br_p c56_5 h
    refine lv_tableIn (off := 110) (tgt := 166) hx hb dX7_begin_56 (by rw [c56_5]; decide) (by rw [c56_5]; decide) (by rw [c56_5]; rfl) rfl ?_
    refine lv_aload_n hx hb dX7_begin_166 rfl (lv_at hl 3 rfl) ?_
    refine lv_aload_n hx hb dX7_begin_167 rfl (lv_at hl 3 rfl) ?_
    refine gf_X7_9_Turner_0 X hP dX7_begin_168 ?_
    refine gf_X7_89_Turner_1 X hP dX7_begin_171 ?_
    refine lv_iconst (v := 2) hx hb dX7_begin_174 rfl ?_
    obtain ⟨hi175, h⟩ := gv_of h
    refine al_Turner_5 X hP hi175 dX7_begin_175 ?_
    refine lv_lconst (v := 0) hx hb dX7_begin_176 rfl ?_
    refine lv_lload hx hb dX7_begin_177 (lv_at hl 2 rfl) ?_
    obtain ⟨o8, hco8, h⟩ := bd_of h
    refine kV (rest := []) X dX7_begin_179 wd_3_188 mw_X7_put wd_3_190 wp_3_14 hP (k0 := 0) rfl rfl rfl hS (fun _ z => z) (c_X7_put hco8) rfl hl.1 rfl (Nat.le_of_ble_eq_true rfl) rfl rfl ⟨Nat.le_of_ble_eq_true rfl, Nat.le_of_ble_eq_true rfl⟩ (fun H locs hP _ _ hS => ?_)
    refine W.eq (g2 := F0 m 182 ls []) rfl ?_
    refine lv_goto (tgt := 318) hx hb dX7_begin_182 rfl ?_
    exact ret h hP hS dX7_begin_318
  have h := br_n c56_5 h
  by_cases c56_6 : (swK ((Int32.ofNat (p0).toNatClampNeg)).toNatClampNeg) = 6
  · have h := br_p c56_6 h
    refine lv_tableIn (off := 129) (tgt := 185) hx hb dX7_begin_56 (by rw [c56_6]; decide) (by rw [c56_6]; decide) (by rw [c56_6]; rfl) rfl ?_
    refine lv_aload_n hx hb dX7_begin_185 rfl (lv_at hl 3 rfl) ?_
    refine lv_aload_n hx hb dX7_begin_186 rfl (lv_at hl 3 rfl) ?_
    refine gf_X7_9_Turner_0 X hP dX7_begin_187 ?_
    refine gf_X7_89_Turner_1 X hP dX7_begin_190 ?_
    refine lv_iconst (v := 2) hx hb dX7_begin_193 rfl ?_
    obtain ⟨hi194, h⟩ := gv_of h
    refine al_Turner_5 X hP hi194 dX7_begin_194 ?_
    refine lv_lload hx hb dX7_begin_195 (lv_at hl 2 rfl) ?_
    refine lv_aload_n hx hb dX7_begin_197 rfl (lv_at hl 3 rfl) ?_
    refine gf_X7_9_Turner_0 X hP dX7_begin_198 ?_
    refine gf_X7_113_Turner_1 X hP dX7_begin_201 ?_
    obtain ⟨o9, hco9, h⟩ := bd_of h
    refine kV (rest := []) X dX7_begin_204 wd_3_177 mw_X7_beginNear wd_3_179 wp_3_13 hP (k0 := 0) rfl rfl rfl hS (fun _ z => z) (c_X7_beginNear hco9) rfl hl.1 rfl (Nat.le_of_ble_eq_true rfl) rfl rfl ⟨Nat.le_of_ble_eq_true rfl, Nat.le_of_ble_eq_true rfl⟩ (fun H locs hP _ _ hS => ?_)
    refine W.eq (g2 := F0 m 207 ls []) rfl ?_
    refine lv_goto (tgt := 318) hx hb dX7_begin_207 rfl ?_
    exact ret h hP hS dX7_begin_318
  have h := br_n c56_6 h
  by_cases c56_7 : (swK ((Int32.ofNat (p0).toNatClampNeg)).toNatClampNeg) = 7
  · have h := br_p c56_7 h
    refine lv_tableIn (off := 244) (tgt := 300) hx hb dX7_begin_56 (by rw [c56_7]; decide) (by rw [c56_7]; decide) (by rw [c56_7]; rfl) rfl ?_
    exact b300   p3 v1 v2 r_x r_y r_z (0 : Int32) (0 : Int32) r_first r_second _ _ _ h hP hS (lv_sub hl [3, 7, 2, 1] rfl)
  have h := br_n c56_7 h
  by_cases c56_8 : (swK ((Int32.ofNat (p0).toNatClampNeg)).toNatClampNeg) = 8
  · have h := br_p c56_8 h
    refine lv_tableIn (off := 154) (tgt := 210) hx hb dX7_begin_56 (by rw [c56_8]; decide) (by rw [c56_8]; decide) (by rw [c56_8]; rfl) rfl ?_
    refine lv_aload_n hx hb dX7_begin_210 rfl (lv_at hl 3 rfl) ?_
    refine lv_lload hx hb dX7_begin_211 (lv_at hl 2 rfl) ?_
    obtain ⟨o11, hco11, h⟩ := bd_of h
    refine kS (rest := [.ref a0]) X dX7_begin_213 wd_3_206 mw_X7_powerOf wd_3_207 hP hS (fun _ z => z) (c_X7_powerOf hco11) rfl hl.1 rfl (Nat.le_of_ble_eq_true rfl) rfl rfl ⟨Nat.le_of_ble_eq_true rfl, Nat.le_of_ble_eq_true rfl⟩ (fun H locs hP _ _ hS => ?_)
    refine W.eq (g2 := F0 m 216 ls [.int o11, .ref a0]) rfl ?_
    refine lv_aload_n hx hb dX7_begin_216 rfl (lv_at hl 3 rfl) ?_
    refine gf_X7_9_Turner_0 X hP dX7_begin_217 ?_
    refine gf_X7_80_Turner_1 X hP dX7_begin_220 ?_
    refine lv_isub hx hb dX7_begin_223 ?_
    refine lv_iconst (v := 1) hx hb dX7_begin_224 rfl ?_
    refine lv_iadd hx hb dX7_begin_225 ?_
    refine lv_topi (fun v12 ev12 => ?_)
    have h := lt_at ev12 h
    refine pf_X7_86_Turner_0 (v0 := v12) X hP hS dX7_begin_226 (fun H locs hP hS => ?_)
    refine lv_aload_n hx hb dX7_begin_229 rfl (lv_at hl 3 rfl) ?_
    refine lv_aload_n hx hb dX7_begin_230 rfl (lv_at hl 3 rfl) ?_
    refine gf_X7_9_Turner_0 X hP dX7_begin_231 ?_
    refine lv_lload hx hb dX7_begin_234 (lv_at hl 2 rfl) ?_
    refine lv_aload_n hx hb dX7_begin_236 rfl (lv_at hl 3 rfl) ?_
    refine gf_X7_86_Turner_0 X hP dX7_begin_237 ?_
    refine lv_ineg hx hb dX7_begin_240 ?_
    obtain ⟨o13, hco13, h⟩ := bd_of h
    obtain ⟨hF, hFA⟩ := fo_Turner_Unit_1 hP
    refine kVN (rest := [.ref a0]) X dX7_begin_241 wd_3_216 mw_X8_scaled wd_3_218 wp_4_2 hF (k0 := 0) rfl rfl rfl hS hFA (c_X8_scaled hco13) rfl hl.1 rfl (Nat.le_of_ble_eq_true rfl) rfl rfl ⟨Nat.le_of_ble_eq_true rfl, Nat.le_of_ble_eq_true rfl⟩ (fun H locs hF1 _ hk hS => ?_)
    have hP := un_Turner_Unit_1 hP hk hF1
    refine W.eq (g2 := F0 m 244 ls [.long o13, .ref a0]) rfl ?_
    refine lv_lload hx hb dX7_begin_244 (lv_at hl 0 rfl) ?_
    obtain ⟨o14, hco14, h⟩ := bd_of h
    refine kV (rest := []) X dX7_begin_246 wd_3_220 mw_X7_beginApart wd_3_222 wp_4_3 hP (k0 := 0) rfl rfl rfl hS (fun _ z => z) (c_X7_beginApart hco14) rfl hl.1 rfl (Nat.le_of_ble_eq_true rfl) rfl rfl ⟨Nat.le_of_ble_eq_true rfl, Nat.le_of_ble_eq_true rfl⟩ (fun H locs hP _ _ hS => ?_)
    refine W.eq (g2 := F0 m 249 ls []) rfl ?_
    refine lv_goto (tgt := 318) hx hb dX7_begin_249 rfl ?_
    exact ret h hP hS dX7_begin_318
  have h := br_n c56_8 h
  by_cases c56_9 : (swK ((Int32.ofNat (p0).toNatClampNeg)).toNatClampNeg) = 9
  · have h := br_p c56_9 h
    refine lv_tableIn (off := 196) (tgt := 252) hx hb dX7_begin_56 (by rw [c56_9]; decide) (by rw [c56_9]; decide) (by rw [c56_9]; rfl) rfl ?_
    refine lv_aload_n hx hb dX7_begin_252 rfl (lv_at hl 3 rfl) ?_
    refine lv_lload hx hb dX7_begin_253 (lv_at hl 2 rfl) ?_
    obtain ⟨o15, hco15, h⟩ := bd_of h
    refine kS (rest := [.ref a0]) X dX7_begin_255 wd_3_206 mw_X7_powerOf wd_3_207 hP hS (fun _ z => z) (c_X7_powerOf hco15) rfl hl.1 rfl (Nat.le_of_ble_eq_true rfl) rfl rfl ⟨Nat.le_of_ble_eq_true rfl, Nat.le_of_ble_eq_true rfl⟩ (fun H locs hP _ _ hS => ?_)
    refine W.eq (g2 := F0 m 258 ls [.int o15, .ref a0]) rfl ?_
    refine lv_aload_n hx hb dX7_begin_258 rfl (lv_at hl 3 rfl) ?_
    refine gf_X7_9_Turner_0 X hP dX7_begin_259 ?_
    refine gf_X7_80_Turner_1 X hP dX7_begin_262 ?_
    refine lv_isub hx hb dX7_begin_265 ?_
    refine lv_iconst (v := 2) hx hb dX7_begin_266 rfl ?_
    refine lv_iadd hx hb dX7_begin_267 ?_
    refine lv_iconst (v := 1) hx hb dX7_begin_268 rfl ?_
    refine lv_ishr hx hb dX7_begin_269 ?_
    refine lv_topi (fun v16 ev16 => ?_)
    have h := lt_at ev16 h
    refine pf_X7_86_Turner_0 (v0 := v16) X hP hS dX7_begin_270 (fun H locs hP hS => ?_)
    refine lv_aload_n hx hb dX7_begin_273 rfl (lv_at hl 3 rfl) ?_
    refine lv_aload_n hx hb dX7_begin_274 rfl (lv_at hl 3 rfl) ?_
    refine gf_X7_9_Turner_0 X hP dX7_begin_275 ?_
    refine lv_lload hx hb dX7_begin_278 (lv_at hl 2 rfl) ?_
    refine lv_bipush (v := (-2)) hx hb dX7_begin_280 rfl ?_
    refine lv_aload_n hx hb dX7_begin_282 rfl (lv_at hl 3 rfl) ?_
    refine gf_X7_86_Turner_0 X hP dX7_begin_283 ?_
    refine lv_imul hx hb dX7_begin_286 ?_
    obtain ⟨o17, hco17, h⟩ := bd_of h
    obtain ⟨hF, hFA⟩ := fo_Turner_Unit_1 hP
    refine kVN (rest := [.ref a0]) X dX7_begin_287 wd_3_216 mw_X8_scaled wd_3_218 wp_4_2 hF (k0 := 0) rfl rfl rfl hS hFA (c_X8_scaled hco17) rfl hl.1 rfl (Nat.le_of_ble_eq_true rfl) rfl rfl ⟨Nat.le_of_ble_eq_true rfl, Nat.le_of_ble_eq_true rfl⟩ (fun H locs hF1 _ hk hS => ?_)
    have hP := un_Turner_Unit_1 hP hk hF1
    refine W.eq (g2 := F0 m 290 ls [.long o17, .ref a0]) rfl ?_
    refine lv_lload hx hb dX7_begin_290 (lv_at hl 0 rfl) ?_
    refine lv_iconst (v := 2) hx hb dX7_begin_292 rfl ?_
    refine lv_lshr hx hb dX7_begin_293 rfl ?_
    obtain ⟨o18, hco18, h⟩ := bd_of h
    refine kV (rest := []) X dX7_begin_294 wd_3_220 mw_X7_beginApart wd_3_222 wp_4_3 hP (k0 := 0) rfl rfl rfl hS (fun _ z => z) (c_X7_beginApart hco18) rfl hl.1 rfl (Nat.le_of_ble_eq_true rfl) rfl rfl ⟨Nat.le_of_ble_eq_true rfl, Nat.le_of_ble_eq_true rfl⟩ (fun H locs hP _ _ hS => ?_)
    refine W.eq (g2 := F0 m 297 ls []) rfl ?_
    refine lv_goto (tgt := 318) hx hb dX7_begin_297 rfl ?_
    exact ret h hP hS dX7_begin_318
  have h := br_n c56_9 h
  refine lv_tableOut (tgt := 300) hx hb dX7_begin_56 (by have := lv_neT (a := 1) c56_1 rfl; have := lv_neT (a := 2) c56_2 rfl; have := lv_neT (a := 3) c56_3 rfl; have := lv_neT (a := 4) c56_4 rfl; have := lv_neT (a := 5) c56_5 rfl; have := lv_neT (a := 6) c56_6 rfl; have := lv_neT (a := 7) c56_7 rfl; have := lv_neT (a := 8) c56_8 rfl; have := lv_neT (a := 9) c56_9 rfl; omega) rfl ?_
  exact b300   p3 v1 v2 r_x r_y r_z (0 : Int32) (0 : Int32) r_first r_second _ _ _ h hP hS (lv_sub hl [3, 7, 2, 1] rfl)
abbrev rm_X7_goThrough : Room := { frames := 1, cells := 0, slots := 0, locals := 23 }
set_option maxRecDepth 100000 in
set_option maxHeartbeats 4000000 in
theorem c_X7_goThrough {g : gT} {l : Launch} {A : Nat → Prop} {a0 a1 a2 a3 a4 a5 a6 : Nat} {r_x : Int64} {r_y : Int64} {r_z : Int64} {r_upBits : Int32} {r_steps : Int32} {r_first : Int64} {r_second : Int64} {u_width : Int32} {u_guard : Int32} {u_bits : Int32} {u_stages : Int32} {u_places : Int32} {u_near : Bool} {u_quarter : Int64} {u_eighth : Int64} {u_ln : Int64} {u_shifts : Nat → Int32} {u_angles : Nat → Int64} {u_gains : Nat → Int64} {u_undos : Nat → Int64} {u_digits : Nat → Int32} {p0 : Int32} {p1 : Int32} {o : Int64 × Int64 × Int64 × Int32} (h : f_X7_goThrough p0 p1 r_x r_y r_z r_upBits u_near u_shifts u_angles = some o) : Std g l yX7_goThrough (.code yX7_goThrough cX7_goThrough 12 none :: gw) rm_X7_goThrough A [.ref a0, .int p0, .int p1] (wTurner g a0 a1 a2 a3 a4 a5 a6 r_x r_y r_z r_upBits r_steps r_first r_second u_width u_guard u_bits u_stages u_places u_near u_quarter u_eighth u_ln u_shifts u_angles u_gains u_undos u_digits) (wTurner g a0 a1 a2 a3 a4 a5 a6 o.1 o.2.1 o.2.2.1 o.2.2.2 r_steps r_first r_second u_width u_guard u_bits u_stages u_places u_near u_quarter u_eighth u_ln u_shifts u_angles u_gains u_undos u_digits) none := by
  refine std_v (own := RX7) (by decide +kernel) rfl (Nat.le_of_ble_eq_true rfl) ?_
  intro p e s m args below meth c Q X ret H locs hP hS ls hl
  have hx := X.1
  have hb := X.2.1
  have hl : lv_has ls 12 [(0, .ref a0), (1, .int p0), (2, .int p1)] := hl
  have ret : ∀ {H : Heap} {locs : List Loc} {pc : Nat} {ls : Array Slot} {r_x : Int64} {r_y : Int64} {r_z : Int64} {r_upBits : Int32}, some (r_x, r_y, r_z, r_upBits) = some o → WP g A (wTurner g a0 a1 a2 a3 a4 a5 a6 r_x r_y r_z r_upBits r_steps r_first r_second u_width u_guard u_bits u_stages u_places u_near u_quarter u_eighth u_ln u_shifts u_angles u_gains u_undos u_digits) H → va_S A s.heap H locs → decode cX7_goThrough pc = .ok (.return_, 1) → W p l e rm_X7_goThrough s m args below meth c H locs 0 0 Q (F0 m pc ls []) := by
    intro H locs pc ls r_x r_y r_z r_upBits h hP hS hd
    cases h
    exact ret hP hS hd
  have b259 : ∀ (k22 : Int32 → Bool → Int32 → Int32 → Int64 → Int64 → Int64 → Int32 → Option (Int64 × Int64 × Int64 × Int32)) (hk22 : ∀ (x2 : Int32) (x3 : Bool) (x4 : Int32) (x5 : Int32) (r_x : Int64) (r_y : Int64) (r_z : Int64) (r_upBits : Int32) (H : Heap) (locs : List Loc) (ls : Array Slot), k22 x2 x3 x4 x5 r_x r_y r_z r_upBits = some o → WP g A (wTurner g a0 a1 a2 a3 a4 a5 a6 r_x r_y r_z r_upBits r_steps r_first r_second u_width u_guard u_bits u_stages u_places u_near u_quarter u_eighth u_ln u_shifts u_angles u_gains u_undos u_digits) H → va_S A s.heap H locs → lv_has ls 12 [(0, .ref a0), (2, .int x2), (3, .int (bI x3)), (4, .int x4), (5, .int x5)] → W p l e rm_X7_goThrough s m args below meth c H locs 0 0 Q (F0 m 22 ls [])) , ∀ (x2 : Int32) (x3 : Bool) (x4 : Int32) (x5 : Int32) (x7 : Bool) (t1 : Int64) (r_x : Int64) (r_y : Int64) (r_z : Int64) (r_upBits : Int32) (H : Heap) (locs : List Loc) (ls : Array Slot), f_X7_goThrough_b259  u_near u_shifts u_angles k22 x2 x3 x4 x5 x7 t1 r_x r_y r_z r_upBits = some o → WP g A (wTurner g a0 a1 a2 a3 a4 a5 a6 r_x r_y r_z r_upBits r_steps r_first r_second u_width u_guard u_bits u_stages u_places u_near u_quarter u_eighth u_ln u_shifts u_angles u_gains u_undos u_digits) H → va_S A s.heap H locs → lv_has ls 12 [(0, .ref a0), (2, .int x2), (3, .int (bI x3)), (4, .int x4), (5, .int x5), (7, .int (bI x7))] → W p l e rm_X7_goThrough s m args below meth c H locs 0 0 Q (F0 m 259 ls [.long t1, .ref a0]) := by
    intro k22 hk22 x2 x3 x4 x5 x7 t1 r_x r_y r_z r_upBits H locs ls h hP hS hl
    unfold f_X7_goThrough_b259 at h
    refine pf_X7_136_Turner_0 (v0 := t1) X hP hS dX7_goThrough_259 (fun H locs hP hS => ?_)
    refine lv_aload_n hx hb dX7_goThrough_262 rfl (lv_at hl 0 rfl) ?_
    refine lv_dup hx hb dX7_goThrough_263 rfl ?_
    refine gf_X7_83_Turner_0 X hP dX7_goThrough_264 ?_
    refine lv_iload hx hb dX7_goThrough_267 (lv_at hl 5 rfl) ?_
    refine jx1 h (P := fun (v7 : Int32) => ∀ ls : Array Slot, lv_has ls 12 [(0, .ref a0), (2, .int x2), (3, .int (bI x3)), (4, .int x4), (5, .int x5)] → W p l e rm_X7_goThrough s m args below meth c H locs 0 0 Q (F0 m 280 ls [.int v7, .int r_upBits, .ref a0])) ?_ ?_
    · intro v7 h ls hl
      refine lv_ior hx hb dX7_goThrough_280 ?_
      refine lv_topi (fun v8 ev8 => ?_)
      have h := lt_at ev8 h
      refine pf_X7_83_Turner_0 (v0 := v8) X hP hS dX7_goThrough_281 (fun H locs hP hS => ?_)
      obtain ⟨v9, ev9⟩ : ∃ z : Int32, z = (x5 + 1) := ⟨_, rfl⟩
      have h := lt_at ev9 h
      refine lv_iinc (v := v9) (lv' := [(5, .int v9), (0, .ref a0), (2, .int x2), (3, .int (bI x3)), (4, .int x4)]) hx hb dX7_goThrough_284 hl (k := 4) rfl (by rw [ev9]; rfl) (by decide) rfl (fun ls hl => ?_)
      refine lv_goto (tgt := 22) hx hb dX7_goThrough_287 rfl ?_
      exact hk22 x2 x3 x4 v9 r_x r_y t1 v8 _ _ _ h hP hS (lv_sub hl [1, 2, 3, 4, 0] rfl)
    · intro J h
      refine rb_eq (tgt := 279) hx hb dX7_goThrough_269 rfl (fun c269 => ?_) (fun c269 => ?_)
      · refine lv_iconst (v := 0) hx hb dX7_goThrough_279 rfl ?_
        exact J _ (lt_in c269 h) ls (lv_sub hl [0, 1, 2, 3, 4] rfl)
      · refine lv_iconst (v := 1) hx hb dX7_goThrough_272 rfl ?_
        refine lv_iload hx hb dX7_goThrough_273 (lv_at hl 4 rfl) ?_
        refine lv_ishl hx hb dX7_goThrough_275 ?_
        refine lv_goto (tgt := 280) hx hb dX7_goThrough_276 rfl ?_
        exact J _ (lt_ip c269 h) ls (lv_sub hl [0, 1, 2, 3, 4] rfl)
  have b194 : ∀ (k22 : Int32 → Bool → Int32 → Int32 → Int64 → Int64 → Int64 → Int32 → Option (Int64 × Int64 × Int64 × Int32)) (hk22 : ∀ (x2 : Int32) (x3 : Bool) (x4 : Int32) (x5 : Int32) (r_x : Int64) (r_y : Int64) (r_z : Int64) (r_upBits : Int32) (H : Heap) (locs : List Loc) (ls : Array Slot), k22 x2 x3 x4 x5 r_x r_y r_z r_upBits = some o → WP g A (wTurner g a0 a1 a2 a3 a4 a5 a6 r_x r_y r_z r_upBits r_steps r_first r_second u_width u_guard u_bits u_stages u_places u_near u_quarter u_eighth u_ln u_shifts u_angles u_gains u_undos u_digits) H → va_S A s.heap H locs → lv_has ls 12 [(0, .ref a0), (2, .int x2), (3, .int (bI x3)), (4, .int x4), (5, .int x5)] → W p l e rm_X7_goThrough s m args below meth c H locs 0 0 Q (F0 m 22 ls [])) , ∀ (x2 : Int32) (x3 : Bool) (x4 : Int32) (x5 : Int32) (x6 : Int32) (x7 : Bool) (x10 : Int64) (r_x : Int64) (r_y : Int64) (r_z : Int64) (r_upBits : Int32) (H : Heap) (locs : List Loc) (ls : Array Slot), f_X7_goThrough_b194  u_near u_shifts u_angles k22 x2 x3 x4 x5 x6 x7 x10 r_x r_y r_z r_upBits = some o → WP g A (wTurner g a0 a1 a2 a3 a4 a5 a6 r_x r_y r_z r_upBits r_steps r_first r_second u_width u_guard u_bits u_stages u_places u_near u_quarter u_eighth u_ln u_shifts u_angles u_gains u_undos u_digits) H → va_S A s.heap H locs → lv_has ls 12 [(0, .ref a0), (2, .int x2), (3, .int (bI x3)), (4, .int x4), (5, .int x5), (6, .int x6), (7, .int (bI x7)), (10, .long x10)] → W p l e rm_X7_goThrough s m args below meth c H locs 0 0 Q (F0 m 194 ls []) := by
    intro k22 hk22 x2 x3 x4 x5 x6 x7 x10 r_x r_y r_z r_upBits H locs ls h hP hS hl
    unfold f_X7_goThrough_b194 at h
    refine lv_aload_n hx hb dX7_goThrough_194 rfl (lv_at hl 0 rfl) ?_
    refine lv_iload hx hb dX7_goThrough_195 (lv_at hl 6 rfl) ?_
    refine jx1 h (P := fun (v6 : Int64) => ∀ ls : Array Slot, lv_has ls 12 [(0, .ref a0), (2, .int x2), (3, .int (bI x3)), (4, .int x4), (5, .int x5), (6, .int x6), (7, .int (bI x7))] → W p l e rm_X7_goThrough s m args below meth c H locs 0 0 Q (F0 m 217 ls [.long v6, .ref a0])) ?_ ?_
    · intro v6 h ls hl
      refine pf_X7_133_Turner_0 (v0 := v6) X hP hS dX7_goThrough_217 (fun H locs hP hS => ?_)
      refine lv_aload_n hx hb dX7_goThrough_220 rfl (lv_at hl 0 rfl) ?_
      refine lv_iload hx hb dX7_goThrough_221 (lv_at hl 6 rfl) ?_
      refine rb_eq (tgt := 244) hx hb dX7_goThrough_223 rfl (fun c223 => ?_) (fun c223 => ?_)
      · have h := br_n c223 h
        refine lv_aload_n hx hb dX7_goThrough_244 rfl (lv_at hl 0 rfl) ?_
        refine gf_X7_136_Turner_0 X hP dX7_goThrough_245 ?_
        refine lv_aload_n hx hb dX7_goThrough_248 rfl (lv_at hl 0 rfl) ?_
        refine gf_X7_9_Turner_0 X hP dX7_goThrough_249 ?_
        refine gf_X7_174_Turner_1 X hP dX7_goThrough_252 ?_
        refine lv_iload hx hb dX7_goThrough_255 (lv_at hl 5 rfl) ?_
        obtain ⟨hi257, h⟩ := gv_of h
        refine al_Turner_3 X hP hi257 dX7_goThrough_257 ?_
        refine lv_ladd hx hb dX7_goThrough_258 ?_
        exact b259 k22 hk22  x2 x3 x4 x5 x7 (r_z + (u_angles (x6).toNatClampNeg)) r_x v6 r_z r_upBits _ _ _ h hP hS (lv_sub hl [0, 1, 2, 3, 4, 6] rfl)
      · have h := br_p c223 h
        refine lv_aload_n hx hb dX7_goThrough_226 rfl (lv_at hl 0 rfl) ?_
        refine gf_X7_136_Turner_0 X hP dX7_goThrough_227 ?_
        refine lv_aload_n hx hb dX7_goThrough_230 rfl (lv_at hl 0 rfl) ?_
        refine gf_X7_9_Turner_0 X hP dX7_goThrough_231 ?_
        refine gf_X7_174_Turner_1 X hP dX7_goThrough_234 ?_
        refine lv_iload hx hb dX7_goThrough_237 (lv_at hl 5 rfl) ?_
        obtain ⟨hi239, h⟩ := gv_of h
        refine al_Turner_3 X hP hi239 dX7_goThrough_239 ?_
        refine lv_lsub hx hb dX7_goThrough_240 ?_
        refine lv_goto (tgt := 259) hx hb dX7_goThrough_241 rfl ?_
        exact b259 k22 hk22  x2 x3 x4 x5 x7 (r_z - (u_angles (x6).toNatClampNeg)) r_x v6 r_z r_upBits _ _ _ h hP hS (lv_sub hl [0, 1, 2, 3, 4, 6] rfl)
    · intro J h
      refine rb_eq (tgt := 210) hx hb dX7_goThrough_197 rfl (fun c197 => ?_) (fun c197 => ?_)
      · refine lv_aload_n hx hb dX7_goThrough_210 rfl (lv_at hl 0 rfl) ?_
        refine gf_X7_133_Turner_0 X hP dX7_goThrough_211 ?_
        refine lv_lload hx hb dX7_goThrough_214 (lv_at hl 7 rfl) ?_
        refine lv_lsub hx hb dX7_goThrough_216 ?_
        exact J _ (lt_in c197 h) ls (lv_sub hl [0, 1, 2, 3, 4, 5, 6] rfl)
      · refine lv_aload_n hx hb dX7_goThrough_200 rfl (lv_at hl 0 rfl) ?_
        refine gf_X7_133_Turner_0 X hP dX7_goThrough_201 ?_
        refine lv_lload hx hb dX7_goThrough_204 (lv_at hl 7 rfl) ?_
        refine lv_ladd hx hb dX7_goThrough_206 ?_
        refine lv_goto (tgt := 217) hx hb dX7_goThrough_207 rfl ?_
        exact J _ (lt_ip c197 h) ls (lv_sub hl [0, 1, 2, 3, 4, 5, 6] rfl)
  have l22 : ∀ (n : Nat), ∀ (x2 : Int32) (x3 : Bool) (x4 : Int32) (x5 : Int32) (r_x : Int64) (r_y : Int64) (r_z : Int64) (r_upBits : Int32) (H : Heap) (locs : List Loc) (ls : Array Slot), f_X7_goThrough_l22  u_near u_shifts u_angles  n x2 x3 x4 x5 r_x r_y r_z r_upBits = some o → WP g A (wTurner g a0 a1 a2 a3 a4 a5 a6 r_x r_y r_z r_upBits r_steps r_first r_second u_width u_guard u_bits u_stages u_places u_near u_quarter u_eighth u_ln u_shifts u_angles u_gains u_undos u_digits) H → va_S A s.heap H locs → lv_has ls 12 [(0, .ref a0), (2, .int x2), (3, .int (bI x3)), (4, .int x4), (5, .int x5)] → W p l e rm_X7_goThrough s m args below meth c H locs 0 0 Q (F0 m 22 ls []) := by
    intro  n
    induction n with
    | zero =>
      intro x2 x3 x4 x5 r_x r_y r_z r_upBits H locs ls h
      exact nz_of h
    | succ n ih =>
      intro x2 x3 x4 x5 r_x r_y r_z r_upBits H locs ls h hP hS hl
      rw [f_X7_goThrough_l22] at h
      refine lv_iload hx hb dX7_goThrough_22 (lv_at hl 4 rfl) ?_
      refine lv_iload_n hx hb dX7_goThrough_24 rfl (lv_at hl 1 rfl) ?_
      refine lv_icmp_ge (tgt := 290) hx hb dX7_goThrough_25 rfl (fun c25 => ?_) (fun c25 => ?_)
      · have h := br_p c25 h
        exact ret h hP hS dX7_goThrough_290
      · have h := br_n c25 h
        refine lv_iload hx hb dX7_goThrough_28 (lv_at hl 4 rfl) ?_
        refine lv_bipush (v := 24) hx hb dX7_goThrough_30 rfl ?_
        refine lv_icmp_ge (tgt := 290) hx hb dX7_goThrough_32 rfl (fun c32 => ?_) (fun c32 => ?_)
        · have h := br_p c32 h
          exact ret h hP hS dX7_goThrough_290
        · have h := br_n c32 h
          refine lv_iload hx hb dX7_goThrough_35 (lv_at hl 3 rfl) ?_
          refine lv_bipush (v := 24) hx hb dX7_goThrough_37 rfl ?_
          refine lv_imul hx hb dX7_goThrough_39 ?_
          refine lv_iload hx hb dX7_goThrough_40 (lv_at hl 4 rfl) ?_
          refine lv_iadd hx hb dX7_goThrough_42 ?_
          refine lv_topi (fun v2 ev2 => ?_)
          have h := lt_at ev2 h
          refine lv_istore (lv' := [(6, .int v2), (0, .ref a0), (2, .int x2), (3, .int (bI x3)), (4, .int x4), (5, .int x5)]) hx hb dX7_goThrough_43 hl (by decide) rfl (fun ls hl => ?_)
          refine lv_iload_n hx hb dX7_goThrough_45 rfl (lv_at hl 3 rfl) ?_
          refine jx1 h (P := fun (v3 : Bool) => ∀ ls : Array Slot, lv_has ls 12 [(0, .ref a0), (2, .int x2), (3, .int (bI x3)), (4, .int x4), (5, .int x5), (6, .int v2)] → W p l e rm_X7_goThrough s m args below meth c H locs 0 0 Q (F0 m 80 ls [.int (bI v3)])) ?_ ?_
          · intro v3 h ls hl
            refine lv_istore (lv' := [(7, .int (bI v3)), (0, .ref a0), (2, .int x2), (3, .int (bI x3)), (4, .int x4), (5, .int x5), (6, .int v2)]) hx hb dX7_goThrough_80 hl (by decide) rfl (fun ls hl => ?_)
            refine lv_aload_n hx hb dX7_goThrough_82 rfl (lv_at hl 1 rfl) ?_
            refine gf_X7_9_Turner_0 X hP dX7_goThrough_83 ?_
            refine lv_aload_n hx hb dX7_goThrough_86 rfl (lv_at hl 1 rfl) ?_
            refine gf_X7_133_Turner_0 X hP dX7_goThrough_87 ?_
            refine lv_aload_n hx hb dX7_goThrough_90 rfl (lv_at hl 1 rfl) ?_
            refine gf_X7_9_Turner_0 X hP dX7_goThrough_91 ?_
            refine gf_X7_171_Turner_1 X hP dX7_goThrough_94 ?_
            refine lv_iload hx hb dX7_goThrough_97 (lv_at hl 6 rfl) ?_
            obtain ⟨hi99, h⟩ := gv_of h
            refine al_Turner_2 X hP hi99 dX7_goThrough_99 ?_
            obtain ⟨o4, hco4, h⟩ := bd_of h
            obtain ⟨hF, hFA⟩ := fo_Turner_Unit_1 hP
            refine kVN (rest := []) X dX7_goThrough_100 wd_3_201 mw_X8_shifted wd_3_135 wp_3_7 hF (k0 := 0) rfl rfl rfl hS hFA (c_X8_shifted hco4) rfl hl.1 rfl (Nat.le_of_ble_eq_true rfl) rfl rfl ⟨Nat.le_of_ble_eq_true rfl, Nat.le_of_ble_eq_true rfl⟩ (fun H locs hF1 _ hk hS => ?_)
            have hP := un_Turner_Unit_1 hP hk hF1
            refine W.eq (g2 := F0 m 103 ls [.long o4]) rfl ?_
            refine lv_lstore (lv' := [(8, .long o4), (7, .int (bI v3)), (0, .ref a0), (2, .int x2), (3, .int (bI x3)), (4, .int x4), (5, .int x5), (6, .int v2)]) hx hb dX7_goThrough_103 hl (by decide) rfl (fun ls hl => ?_)
            refine lv_aload_n hx hb dX7_goThrough_105 rfl (lv_at hl 2 rfl) ?_
            refine gf_X7_9_Turner_0 X hP dX7_goThrough_106 ?_
            refine lv_aload_n hx hb dX7_goThrough_109 rfl (lv_at hl 2 rfl) ?_
            refine gf_X7_130_Turner_0 X hP dX7_goThrough_110 ?_
            refine lv_aload_n hx hb dX7_goThrough_113 rfl (lv_at hl 2 rfl) ?_
            refine gf_X7_9_Turner_0 X hP dX7_goThrough_114 ?_
            refine gf_X7_171_Turner_1 X hP dX7_goThrough_117 ?_
            refine lv_iload hx hb dX7_goThrough_120 (lv_at hl 7 rfl) ?_
            obtain ⟨hi122, h⟩ := gv_of h
            refine al_Turner_2 X hP hi122 dX7_goThrough_122 ?_
            obtain ⟨o5, hco5, h⟩ := bd_of h
            obtain ⟨hF, hFA⟩ := fo_Turner_Unit_1 hP
            refine kVN (rest := []) X dX7_goThrough_123 wd_3_201 mw_X8_shifted wd_3_135 wp_3_7 hF (k0 := 0) rfl rfl rfl hS hFA (c_X8_shifted hco5) rfl hl.1 rfl (Nat.le_of_ble_eq_true rfl) rfl rfl ⟨Nat.le_of_ble_eq_true rfl, Nat.le_of_ble_eq_true rfl⟩ (fun H locs hF1 _ hk hS => ?_)
            have hP := un_Turner_Unit_1 hP hk hF1
            refine W.eq (g2 := F0 m 126 ls [.long o5]) rfl ?_
            refine lv_lstore (lv' := [(10, .long o5), (8, .long o4), (7, .int (bI v3)), (0, .ref a0), (2, .int x2), (3, .int (bI x3)), (4, .int x4), (5, .int x5), (6, .int v2)]) hx hb dX7_goThrough_126 hl (by decide) rfl (fun ls hl => ?_)
            refine lv_iload hx hb dX7_goThrough_128 (lv_at hl 6 rfl) ?_
            refine lv_if_ne (tgt := 162) hx hb dX7_goThrough_130 rfl (fun c130 => ?_) (fun c130 => ?_)
            · have h := br_n c130 h
              refine lv_iload hx hb dX7_goThrough_162 (lv_at hl 6 rfl) ?_
              refine lv_iconst (v := 2) hx hb dX7_goThrough_164 rfl ?_
              refine lv_icmp_ne (tgt := 194) hx hb dX7_goThrough_165 rfl (fun c165 => ?_) (fun c165 => ?_)
              · have h := br_n c165 h
                exact b194 (f_X7_goThrough_l22  u_near u_shifts u_angles  n) ih  x2 x3 x4 x5 v2 v3 o5 r_x r_y r_z r_upBits _ _ _ h hP hS (lv_sub hl [3, 4, 5, 6, 7, 8, 2, 0] rfl)
              · have h := br_p c165 h
                refine lv_aload_n hx hb dX7_goThrough_168 rfl (lv_at hl 3 rfl) ?_
                refine lv_iload hx hb dX7_goThrough_169 (lv_at hl 2 rfl) ?_
                refine jx1 h (P := fun (v10 : Int64) => ∀ ls : Array Slot, lv_has ls 12 [(0, .ref a0), (2, .int x2), (3, .int (bI x3)), (4, .int x4), (5, .int x5), (6, .int v2), (7, .int (bI v3)), (10, .long o5)] → W p l e rm_X7_goThrough s m args below meth c H locs 0 0 Q (F0 m 191 ls [.long v10, .ref a0])) ?_ ?_
                · intro v10 h ls hl
                  refine pf_X7_130_Turner_0 (v0 := v10) X hP hS dX7_goThrough_191 (fun H locs hP hS => ?_)
                  exact b194 (f_X7_goThrough_l22  u_near u_shifts u_angles  n) ih  x2 x3 x4 x5 v2 v3 o5 v10 r_y r_z r_upBits _ _ _ h hP hS (lv_sub hl [0, 1, 2, 3, 4, 5, 6, 7] rfl)
                · intro J h
                  refine rb_eq (tgt := 184) hx hb dX7_goThrough_171 rfl (fun c171 => ?_) (fun c171 => ?_)
                  · refine lv_aload_n hx hb dX7_goThrough_184 rfl (lv_at hl 3 rfl) ?_
                    refine gf_X7_130_Turner_0 X hP dX7_goThrough_185 ?_
                    refine lv_lload hx hb dX7_goThrough_188 (lv_at hl 1 rfl) ?_
                    refine lv_lsub hx hb dX7_goThrough_190 ?_
                    exact J _ (lt_in c171 h) ls (lv_sub hl [3, 4, 5, 6, 7, 8, 2, 0] rfl)
                  · refine lv_aload_n hx hb dX7_goThrough_174 rfl (lv_at hl 3 rfl) ?_
                    refine gf_X7_130_Turner_0 X hP dX7_goThrough_175 ?_
                    refine lv_lload hx hb dX7_goThrough_178 (lv_at hl 1 rfl) ?_
                    refine lv_ladd hx hb dX7_goThrough_180 ?_
                    refine lv_goto (tgt := 191) hx hb dX7_goThrough_181 rfl ?_
                    exact J _ (lt_ip c171 h) ls (lv_sub hl [3, 4, 5, 6, 7, 8, 2, 0] rfl)
            · have h := br_p c130 h
              refine lv_aload_n hx hb dX7_goThrough_133 rfl (lv_at hl 3 rfl) ?_
              refine lv_iload hx hb dX7_goThrough_134 (lv_at hl 2 rfl) ?_
              refine jx1 h (P := fun (v11 : Int64) => ∀ ls : Array Slot, lv_has ls 12 [(0, .ref a0), (2, .int x2), (3, .int (bI x3)), (4, .int x4), (5, .int x5), (6, .int v2), (7, .int (bI v3)), (10, .long o5)] → W p l e rm_X7_goThrough s m args below meth c H locs 0 0 Q (F0 m 156 ls [.long v11, .ref a0])) ?_ ?_
              · intro v11 h ls hl
                refine pf_X7_130_Turner_0 (v0 := v11) X hP hS dX7_goThrough_156 (fun H locs hP hS => ?_)
                refine lv_goto (tgt := 194) hx hb dX7_goThrough_159 rfl ?_
                exact b194 (f_X7_goThrough_l22  u_near u_shifts u_angles  n) ih  x2 x3 x4 x5 v2 v3 o5 v11 r_y r_z r_upBits _ _ _ h hP hS (lv_sub hl [0, 1, 2, 3, 4, 5, 6, 7] rfl)
              · intro J h
                refine rb_eq (tgt := 149) hx hb dX7_goThrough_136 rfl (fun c136 => ?_) (fun c136 => ?_)
                · refine lv_aload_n hx hb dX7_goThrough_149 rfl (lv_at hl 3 rfl) ?_
                  refine gf_X7_130_Turner_0 X hP dX7_goThrough_150 ?_
                  refine lv_lload hx hb dX7_goThrough_153 (lv_at hl 1 rfl) ?_
                  refine lv_ladd hx hb dX7_goThrough_155 ?_
                  exact J _ (lt_in c136 h) ls (lv_sub hl [3, 4, 5, 6, 7, 8, 2, 0] rfl)
                · refine lv_aload_n hx hb dX7_goThrough_139 rfl (lv_at hl 3 rfl) ?_
                  refine gf_X7_130_Turner_0 X hP dX7_goThrough_140 ?_
                  refine lv_lload hx hb dX7_goThrough_143 (lv_at hl 1 rfl) ?_
                  refine lv_lsub hx hb dX7_goThrough_145 ?_
                  refine lv_goto (tgt := 156) hx hb dX7_goThrough_146 rfl ?_
                  exact J _ (lt_ip c136 h) ls (lv_sub hl [3, 4, 5, 6, 7, 8, 2, 0] rfl)
          · intro J h
            refine rb_eq (tgt := 66) hx hb dX7_goThrough_46 rfl (fun c46 => ?_) (fun c46 => ?_)
            · refine lv_aload_n hx hb dX7_goThrough_66 rfl (lv_at hl 1 rfl) ?_
              refine gf_X7_133_Turner_0 X hP dX7_goThrough_67 ?_
              refine lv_lconst (v := 0) hx hb dX7_goThrough_70 rfl ?_
              refine rl_ge (tgt := 79) hx hb dX7_goThrough_71 dX7_goThrough_72 rfl (fun c71 => ?_) (fun c71 => ?_)
              · refine lv_iconst (v := 0) hx hb dX7_goThrough_79 rfl ?_
                exact J _ (lt_ip c71 (lt_in c46 h)) ls (lv_sub hl [1, 2, 3, 4, 5, 0] rfl)
              · refine lv_iconst (v := 1) hx hb dX7_goThrough_75 rfl ?_
                refine lv_goto (tgt := 80) hx hb dX7_goThrough_76 rfl ?_
                exact J _ (lt_in c71 (lt_in c46 h)) ls (lv_sub hl [1, 2, 3, 4, 5, 0] rfl)
            · refine lv_aload_n hx hb dX7_goThrough_49 rfl (lv_at hl 1 rfl) ?_
              refine gf_X7_136_Turner_0 X hP dX7_goThrough_50 ?_
              refine lv_lconst (v := 0) hx hb dX7_goThrough_53 rfl ?_
              refine rl_lt (tgt := 62) hx hb dX7_goThrough_54 dX7_goThrough_55 rfl (fun c54 => ?_) (fun c54 => ?_)
              · refine lv_iconst (v := 0) hx hb dX7_goThrough_62 rfl ?_
                refine lv_goto (tgt := 80) hx hb dX7_goThrough_63 rfl ?_
                exact J _ (lt_ip c54 (lt_ip c46 h)) ls (lv_sub hl [1, 2, 3, 4, 5, 0] rfl)
              · refine lv_iconst (v := 1) hx hb dX7_goThrough_58 rfl ?_
                refine lv_goto (tgt := 80) hx hb dX7_goThrough_59 rfl ?_
                exact J _ (lt_in c54 (lt_ip c46 h)) ls (lv_sub hl [1, 2, 3, 4, 5, 0] rfl)
  unfold f_X7_goThrough at h
  refine sgN X hS (sfX X).1 wd_3_159 dX7_goThrough_0 ?_
  refine lv_iload_n hx hb dX7_goThrough_3 rfl (lv_at hl 1 rfl) ?_
  obtain ⟨hi4, h⟩ := gv_of h
  refine stq X hS (sfX X).2.2.2.2.2.2.2.1 hi4 dX7_goThrough_4 ?_
  refine W.eq (g2 := F0 m 5 ls [.ref (g.2 (20 + (p0).toNatClampNeg))]) rfl ?_
  refine ofN X hS ((sfX X).2.2.2.2.2.2.2.2.2.2.2.2.1 _ (vin_lt hi4)).2.2.2.2.2 wd_7_230 dX7_goThrough_5 ?_
  refine lv_istore_n (lv' := [(3, .int (bI (kTurn (p0).toNatClampNeg))), (0, .ref a0), (1, .int p0), (2, .int p1)]) hx hb dX7_goThrough_8 rfl hl (by decide) rfl (fun ls hl => ?_)
  refine sgN X hS (sfX X).1 wd_3_159 dX7_goThrough_9 ?_
  refine lv_iload_n hx hb dX7_goThrough_12 rfl (lv_at hl 2 rfl) ?_
  obtain ⟨hi13, h⟩ := gv_of h
  refine stq X hS (sfX X).2.2.2.2.2.2.2.1 hi13 dX7_goThrough_13 ?_
  refine W.eq (g2 := F0 m 14 ls [.ref (g.2 (20 + (p0).toNatClampNeg))]) rfl ?_
  refine ofN X hS ((sfX X).2.2.2.2.2.2.2.2.2.2.2.2.1 _ (vin_lt hi13)).2.2.2.2.1 wd_7_231 dX7_goThrough_14 ?_
  refine lv_topi (fun v1 ev1 => ?_)
  have h := lt_at ev1 h
  refine lv_istore (lv' := [(4, .int v1), (3, .int (bI (kTurn (p0).toNatClampNeg))), (0, .ref a0), (1, .int p0), (2, .int p1)]) hx hb dX7_goThrough_17 hl (by decide) rfl (fun ls hl => ?_)
  refine lv_iconst (v := 0) hx hb dX7_goThrough_19 rfl ?_
  refine lv_istore (lv' := [(5, .int 0), (4, .int v1), (3, .int (bI (kTurn (p0).toNatClampNeg))), (0, .ref a0), (1, .int p0), (2, .int p1)]) hx hb dX7_goThrough_20 hl (by decide) rfl (fun ls hl => ?_)
  exact l22  FU p1 (kTurn (p0).toNatClampNeg) v1 (0 : Int32) r_x r_y r_z r_upBits _ _ _ h hP hS (lv_sub hl [3, 5, 2, 1, 0] rfl)
abbrev rm_X8_outward : Room := { frames := 0, cells := 0, slots := 0, locals := 0 }
set_option maxRecDepth 100000 in
set_option maxHeartbeats 4000000 in
theorem c_X8_outward {g : gT} {l : Launch} {A : Nat → Prop} {a0 a1 a2 a3 a4 a5 : Nat} {u_width : Int32} {u_guard : Int32} {u_bits : Int32} {u_stages : Int32} {u_places : Int32} {u_near : Bool} {u_quarter : Int64} {u_eighth : Int64} {u_ln : Int64} {u_shifts : Nat → Int32} {u_angles : Nat → Int64} {u_gains : Nat → Int64} {u_undos : Nat → Int64} {u_digits : Nat → Int32} {p0 : Int64} {o : Int64} (h : f_X8_outward p0 u_guard = some o) : Std g l yX8_outward (.code yX8_outward cX8_outward 3 (some .long) :: gw) rm_X8_outward A [.ref a0, .long p0] (wUnit g a0 a1 a2 a3 a4 a5 u_width u_guard u_bits u_stages u_places u_near u_quarter u_eighth u_ln u_shifts u_angles u_gains u_undos u_digits) (wUnit g a0 a1 a2 a3 a4 a5 u_width u_guard u_bits u_stages u_places u_near u_quarter u_eighth u_ln u_shifts u_angles u_gains u_undos u_digits) (some (.long o)) := by
  refine std_l (own := RX8) (by decide +kernel) rfl (Nat.le_of_ble_eq_true rfl) ?_
  intro p e s m args below meth c Q X ret H locs hP hS ls hl
  have hx := X.1
  have hb := X.2.1
  have hl : lv_has ls 3 [(0, .ref a0), (1, .long p0)] := hl
  have ret : ∀ {H : Heap} {locs : List Loc} {pc : Nat} {ls : Array Slot} {v : Int64} , some (v) = some o → WP g A (wUnit g a0 a1 a2 a3 a4 a5 u_width u_guard u_bits u_stages u_places u_near u_quarter u_eighth u_ln u_shifts u_angles u_gains u_undos u_digits) H → va_S A s.heap H locs → decode cX8_outward pc = .ok (.lreturn, 1) → W p l e rm_X8_outward s m args below meth c H locs 0 0 Q (F0 m pc ls [.long v]) := by
    intro H locs pc ls v h hP hS hd
    cases h
    exact ret hP hS hd
  unfold f_X8_outward at h
  refine lv_aload_n hx hb dX8_outward_0 rfl (lv_at hl 0 rfl) ?_
  refine gf_X8_32_Unit_0 X hP dX8_outward_1 ?_
  refine jx1 h (P := fun (v1 : Int64) => ∀ ls : Array Slot, lv_has ls 3 [] → W p l e rm_X8_outward s m args below meth c H locs 0 0 Q (F0 m 26 ls [.long v1])) ?_ ?_
  · intro v1 h ls hl
    exact ret h hP hS dX8_outward_26
  · intro J h
    refine lv_if_ne (tgt := 11) hx hb dX8_outward_4 rfl (fun c4 => ?_) (fun c4 => ?_)
    · refine lv_lload_n hx hb dX8_outward_11 rfl (lv_at hl 1 rfl) ?_
      refine lv_lconst (v := 1) hx hb dX8_outward_12 rfl ?_
      refine lv_aload_n hx hb dX8_outward_13 rfl (lv_at hl 0 rfl) ?_
      refine gf_X8_32_Unit_0 X hP dX8_outward_14 ?_
      refine lv_iconst (v := 1) hx hb dX8_outward_17 rfl ?_
      refine lv_isub hx hb dX8_outward_18 ?_
      refine lv_lshl hx hb dX8_outward_19 rfl ?_
      refine lv_ladd hx hb dX8_outward_20 ?_
      refine lv_aload_n hx hb dX8_outward_21 rfl (lv_at hl 0 rfl) ?_
      refine gf_X8_32_Unit_0 X hP dX8_outward_22 ?_
      refine lv_lshr hx hb dX8_outward_25 rfl ?_
      exact J _ (lt_in c4 h) ls (lv_sub hl [] rfl)
    · refine lv_lload_n hx hb dX8_outward_7 rfl (lv_at hl 1 rfl) ?_
      refine lv_goto (tgt := 26) hx hb dX8_outward_8 rfl ?_
      exact J _ (lt_ip c4 h) ls (lv_sub hl [] rfl)
abbrev rm_X8_withoutGain : Room := { frames := 1, cells := 0, slots := 0, locals := 23 }
set_option maxRecDepth 100000 in
set_option maxHeartbeats 4000000 in
theorem c_X8_withoutGain {g : gT} {l : Launch} {A : Nat → Prop} {a0 a1 a2 a3 a4 a5 : Nat} {u_width : Int32} {u_guard : Int32} {u_bits : Int32} {u_stages : Int32} {u_places : Int32} {u_near : Bool} {u_quarter : Int64} {u_eighth : Int64} {u_ln : Int64} {u_shifts : Nat → Int32} {u_angles : Nat → Int64} {u_gains : Nat → Int64} {u_undos : Nat → Int64} {u_digits : Nat → Int32} {p0 : Int32} {p1 : Int64} {o : Int64} (h : f_X8_withoutGain p0 p1 u_bits u_near u_digits = some o) : Std g l yX8_withoutGain (.code yX8_withoutGain cX8_withoutGain 8 (some .long) :: gw) rm_X8_withoutGain A [.ref a0, .int p0, .long p1] (wUnit g a0 a1 a2 a3 a4 a5 u_width u_guard u_bits u_stages u_places u_near u_quarter u_eighth u_ln u_shifts u_angles u_gains u_undos u_digits) (wUnit g a0 a1 a2 a3 a4 a5 u_width u_guard u_bits u_stages u_places u_near u_quarter u_eighth u_ln u_shifts u_angles u_gains u_undos u_digits) (some (.long o)) := by
  refine std_l (own := RX8) (by decide +kernel) rfl (Nat.le_of_ble_eq_true rfl) ?_
  intro p e s m args below meth c Q X ret H locs hP hS ls hl
  have hx := X.1
  have hb := X.2.1
  have hl : lv_has ls 8 [(0, .ref a0), (1, .int p0), (2, .long p1)] := hl
  have ret : ∀ {H : Heap} {locs : List Loc} {pc : Nat} {ls : Array Slot} {v : Int64} , some (v) = some o → WP g A (wUnit g a0 a1 a2 a3 a4 a5 u_width u_guard u_bits u_stages u_places u_near u_quarter u_eighth u_ln u_shifts u_angles u_gains u_undos u_digits) H → va_S A s.heap H locs → decode cX8_withoutGain pc = .ok (.lreturn, 1) → W p l e rm_X8_withoutGain s m args below meth c H locs 0 0 Q (F0 m pc ls [.long v]) := by
    intro H locs pc ls v h hP hS hd
    cases h
    exact ret hP hS hd
  have b74 : ∀ (k6 : Int32 → Int64 → Int64 → Int32 → Option (Int64)) (hk6 : ∀ (x1 : Int32) (x2 : Int64) (x4 : Int64) (x6 : Int32) (H : Heap) (locs : List Loc) (ls : Array Slot), k6 x1 x2 x4 x6 = some o → WP g A (wUnit g a0 a1 a2 a3 a4 a5 u_width u_guard u_bits u_stages u_places u_near u_quarter u_eighth u_ln u_shifts u_angles u_gains u_undos u_digits) H → va_S A s.heap H locs → lv_has ls 8 [(0, .ref a0), (1, .int x1), (2, .long x2), (4, .long x4), (6, .int x6)] → W p l e rm_X8_withoutGain s m args below meth c H locs 0 0 Q (F0 m 6 ls [])) , ∀ (x1 : Int32) (x2 : Int64) (x4 : Int64) (x6 : Int32) (H : Heap) (locs : List Loc) (ls : Array Slot), f_X8_withoutGain_b74  u_bits u_near u_digits k6 x1 x2 x4 x6 = some o → WP g A (wUnit g a0 a1 a2 a3 a4 a5 u_width u_guard u_bits u_stages u_places u_near u_quarter u_eighth u_ln u_shifts u_angles u_gains u_undos u_digits) H → va_S A s.heap H locs → lv_has ls 8 [(0, .ref a0), (1, .int x1), (2, .long x2), (4, .long x4), (6, .int x6)] → W p l e rm_X8_withoutGain s m args below meth c H locs 0 0 Q (F0 m 74 ls []) := by
    intro k6 hk6 x1 x2 x4 x6 H locs ls h hP hS hl
    unfold f_X8_withoutGain_b74 at h
    obtain ⟨v2, ev2⟩ : ∃ z : Int32, z = (x6 + 1) := ⟨_, rfl⟩
    have h := lt_at ev2 h
    refine lv_iinc (v := v2) (lv' := [(6, .int v2), (0, .ref a0), (1, .int x1), (2, .long x2), (4, .long x4)]) hx hb dX8_withoutGain_74 hl (k := 4) rfl (by rw [ev2]; rfl) (by decide) rfl (fun ls hl => ?_)
    refine lv_goto (tgt := 6) hx hb dX8_withoutGain_77 rfl ?_
    exact hk6 x1 x2 x4 v2 _ _ _ h hP hS (lv_sub hl [1, 2, 3, 4, 0] rfl)
  have b70 : ∀ (k6 : Int32 → Int64 → Int64 → Int32 → Option (Int64)) (hk6 : ∀ (x1 : Int32) (x2 : Int64) (x4 : Int64) (x6 : Int32) (H : Heap) (locs : List Loc) (ls : Array Slot), k6 x1 x2 x4 x6 = some o → WP g A (wUnit g a0 a1 a2 a3 a4 a5 u_width u_guard u_bits u_stages u_places u_near u_quarter u_eighth u_ln u_shifts u_angles u_gains u_undos u_digits) H → va_S A s.heap H locs → lv_has ls 8 [(0, .ref a0), (1, .int x1), (2, .long x2), (4, .long x4), (6, .int x6)] → W p l e rm_X8_withoutGain s m args below meth c H locs 0 0 Q (F0 m 6 ls [])) , ∀ (x1 : Int32) (x2 : Int64) (x6 : Int32) (t0 : Int64) (t1 : Int64) (t2 : Int64) (H : Heap) (locs : List Loc) (ls : Array Slot), f_X8_withoutGain_b70  u_bits u_near u_digits k6 x1 x2 x6 t0 t1 t2 = some o → WP g A (wUnit g a0 a1 a2 a3 a4 a5 u_width u_guard u_bits u_stages u_places u_near u_quarter u_eighth u_ln u_shifts u_angles u_gains u_undos u_digits) H → va_S A s.heap H locs → lv_has ls 8 [(0, .ref a0), (1, .int x1), (2, .long x2), (6, .int x6)] → W p l e rm_X8_withoutGain s m args below meth c H locs 0 0 Q (F0 m 70 ls [.long t2, .long t1, .long t0]) := by
    intro k6 hk6 x1 x2 x6 t0 t1 t2 H locs ls h hP hS hl
    unfold f_X8_withoutGain_b70 at h
    refine lv_lmul hx hb dX8_withoutGain_70 ?_
    refine lv_ladd hx hb dX8_withoutGain_71 ?_
    refine lv_topl (fun v4 ev4 => ?_)
    have h := lt_at ev4 h
    refine lv_lstore (lv' := [(4, .long v4), (0, .ref a0), (1, .int x1), (2, .long x2), (6, .int x6)]) hx hb dX8_withoutGain_72 hl (by decide) rfl (fun ls hl => ?_)
    exact b74 k6 hk6  x1 x2 v4 x6 _ _ _ h hP hS (lv_sub hl [1, 2, 3, 0, 4] rfl)
  have l6 : ∀ (n : Nat), ∀ (x1 : Int32) (x2 : Int64) (x4 : Int64) (x6 : Int32) (H : Heap) (locs : List Loc) (ls : Array Slot), f_X8_withoutGain_l6  u_bits u_near u_digits  n x1 x2 x4 x6 = some o → WP g A (wUnit g a0 a1 a2 a3 a4 a5 u_width u_guard u_bits u_stages u_places u_near u_quarter u_eighth u_ln u_shifts u_angles u_gains u_undos u_digits) H → va_S A s.heap H locs → lv_has ls 8 [(0, .ref a0), (1, .int x1), (2, .long x2), (4, .long x4), (6, .int x6)] → W p l e rm_X8_withoutGain s m args below meth c H locs 0 0 Q (F0 m 6 ls []) := by
    intro  n
    induction n with
    | zero =>
      intro x1 x2 x4 x6 H locs ls h
      exact nz_of h
    | succ n ih =>
      intro x1 x2 x4 x6 H locs ls h hP hS hl
      rw [f_X8_withoutGain_l6] at h
      refine lv_iload hx hb dX8_withoutGain_6 (lv_at hl 4 rfl) ?_
      refine lv_bipush (v := 32) hx hb dX8_withoutGain_8 rfl ?_
      refine lv_icmp_ge (tgt := 80) hx hb dX8_withoutGain_10 rfl (fun c10 => ?_) (fun c10 => ?_)
      · have h := br_p c10 h
        refine lv_lload hx hb dX8_withoutGain_80 (lv_at hl 3 rfl) ?_
        exact ret h hP hS dX8_withoutGain_82
      · have h := br_n c10 h
        refine lv_aload_n hx hb dX8_withoutGain_13 rfl (lv_at hl 0 rfl) ?_
        refine gf_X8_25_Unit_0 X hP dX8_withoutGain_14 ?_
        refine lv_iload_n hx hb dX8_withoutGain_17 rfl (lv_at hl 1 rfl) ?_
        refine lv_bipush (v := 32) hx hb dX8_withoutGain_18 rfl ?_
        refine lv_imul hx hb dX8_withoutGain_20 ?_
        refine lv_iload hx hb dX8_withoutGain_21 (lv_at hl 4 rfl) ?_
        refine lv_iadd hx hb dX8_withoutGain_23 ?_
        obtain ⟨hi24, h⟩ := gv_of h
        refine al_Unit_5 X hP hi24 dX8_withoutGain_24 ?_
        refine lv_topi (fun v1 ev1 => ?_)
        have h := lt_at ev1 h
        refine lv_istore (lv' := [(7, .int v1), (0, .ref a0), (1, .int x1), (2, .long x2), (4, .long x4), (6, .int x6)]) hx hb dX8_withoutGain_25 hl (by decide) rfl (fun ls hl => ?_)
        refine lv_iload hx hb dX8_withoutGain_27 (lv_at hl 0 rfl) ?_
        refine lv_if_eq (tgt := 74) hx hb dX8_withoutGain_29 rfl (fun c29 => ?_) (fun c29 => ?_)
        · have h := br_p c29 h
          exact b74 (f_X8_withoutGain_l6  u_bits u_near u_digits  n) ih  x1 x2 x4 x6 _ _ _ h hP hS (lv_sub hl [1, 2, 3, 4, 5] rfl)
        · have h := br_n c29 h
          refine lv_lload hx hb dX8_withoutGain_32 (lv_at hl 4 rfl) ?_
          refine lv_iload hx hb dX8_withoutGain_34 (lv_at hl 0 rfl) ?_
          refine lv_i2l hx hb dX8_withoutGain_36 rfl ?_
          refine lv_iload hx hb dX8_withoutGain_37 (lv_at hl 5 rfl) ?_
          refine lv_aload_n hx hb dX8_withoutGain_39 rfl (lv_at hl 1 rfl) ?_
          refine gf_X8_45_Unit_0 X hP dX8_withoutGain_40 ?_
          refine lv_icmp_le (tgt := 58) hx hb dX8_withoutGain_43 rfl (fun c43 => ?_) (fun c43 => ?_)
          · have h := br_p c43 h
            refine lv_aload_n hx hb dX8_withoutGain_58 rfl (lv_at hl 1 rfl) ?_
            refine lv_lload_n hx hb dX8_withoutGain_59 rfl (lv_at hl 3 rfl) ?_
            refine lv_aload_n hx hb dX8_withoutGain_60 rfl (lv_at hl 1 rfl) ?_
            refine gf_X8_45_Unit_0 X hP dX8_withoutGain_61 ?_
            refine lv_iload hx hb dX8_withoutGain_64 (lv_at hl 5 rfl) ?_
            refine lv_isub hx hb dX8_withoutGain_66 ?_
            obtain ⟨o3, hco3, h⟩ := bd_of h
            refine kV (rest := [.long v1.toInt64, .long x4]) X dX8_withoutGain_67 wd_3_133 mw_X8_shifted wd_3_135 wp_3_7 hP (k0 := 0) rfl rfl rfl hS (fun _ z => z) (c_X8_shifted hco3) rfl hl.1 rfl (Nat.le_of_ble_eq_true rfl) rfl rfl ⟨Nat.le_of_ble_eq_true rfl, Nat.le_of_ble_eq_true rfl⟩ (fun H locs hP _ _ hS => ?_)
            refine W.eq (g2 := F0 m 70 ls [.long o3, .long v1.toInt64, .long x4]) rfl ?_
            exact b70 (f_X8_withoutGain_l6  u_bits u_near u_digits  n) ih  x1 x2 x6 x4 v1.toInt64 o3 _ _ _ h hP hS (lv_sub hl [1, 2, 3, 5] rfl)
          · have h := br_n c43 h
            refine lv_lload_n hx hb dX8_withoutGain_46 rfl (lv_at hl 3 rfl) ?_
            refine lv_iload hx hb dX8_withoutGain_47 (lv_at hl 5 rfl) ?_
            refine lv_aload_n hx hb dX8_withoutGain_49 rfl (lv_at hl 1 rfl) ?_
            refine gf_X8_45_Unit_0 X hP dX8_withoutGain_50 ?_
            refine lv_isub hx hb dX8_withoutGain_53 ?_
            refine lv_lshl hx hb dX8_withoutGain_54 rfl ?_
            refine lv_goto (tgt := 70) hx hb dX8_withoutGain_55 rfl ?_
            exact b70 (f_X8_withoutGain_l6  u_bits u_near u_digits  n) ih  x1 x2 x6 x4 v1.toInt64 (x2 <<< ((x6 - u_bits).toInt64 &&& 63)) _ _ _ h hP hS (lv_sub hl [1, 2, 3, 5] rfl)
  unfold f_X8_withoutGain at h
  refine lv_lconst (v := 0) hx hb dX8_withoutGain_0 rfl ?_
  refine lv_lstore (lv' := [(4, .long (0 : Int64)), (0, .ref a0), (1, .int p0), (2, .long p1)]) hx hb dX8_withoutGain_1 hl (by decide) rfl (fun ls hl => ?_)
  refine lv_iconst (v := 0) hx hb dX8_withoutGain_3 rfl ?_
  refine lv_istore (lv' := [(6, .int 0), (4, .long (0 : Int64)), (0, .ref a0), (1, .int p0), (2, .long p1)]) hx hb dX8_withoutGain_4 hl (by decide) rfl (fun ls hl => ?_)
  exact l6  FU p0 p1 (0 : Int64) (0 : Int32) _ _ _ h hP hS (lv_sub hl [2, 3, 4, 1, 0] rfl)
