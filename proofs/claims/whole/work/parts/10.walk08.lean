abbrev rm_X10_distance : Room := { frames := 1, cells := 0, slots := 0, locals := 21 }
set_option maxRecDepth 100000 in
set_option maxHeartbeats 4000000 in
theorem c_X10_distance {g : gT} {l : Launch} {A : Nat → Prop} {q : Nat → Nat} {z_hasUnit : Bool} {z_hasImage : Bool} {t_length : Int32} {t_bytes : Nat → Int32} {x_width : Int32} {x_guard : Int32} {x_stages : Int32} {x_fold : Int32} {x_pipe : Bool} {x_near : Bool} {s_at : Int32} {o_lines : Int32} {n_at : Int32} {o_kinds : Nat → Int32} {o_operands : Nat → Int32} {o_ties : Nat → Int32} {u_width : Int32} {u_guard : Int32} {u_bits : Int32} {u_stages : Int32} {u_places : Int32} {u_near : Bool} {u_quarter : Int64} {u_eighth : Int64} {u_ln : Int64} {u_shifts : Nat → Int32} {u_angles : Nat → Int64} {u_gains : Nat → Int64} {u_undos : Nat → Int64} {u_digits : Nat → Int32} {r_x : Int64} {r_y : Int64} {r_z : Int64} {r_upBits : Int32} {r_steps : Int32} {r_first : Int64} {r_second : Int64} {v_width : Int32} {v_guard : Int32} {v_bits : Int32} {v_stages : Int32} {v_places : Int32} {v_near : Bool} {v_quarter : Int64} {v_eighth : Int64} {v_ln : Int64} {v_shifts : Nat → Int32} {v_angles : Nat → Int64} {v_gains : Nat → Int64} {v_undos : Nat → Int64} {v_digits : Nat → Int32} {k_x : Int64} {k_y : Int64} {k_z : Int64} {k_upBits : Int32} {k_steps : Int32} {k_first : Int64} {k_second : Int64} {b_jobs : Int32} {b_over : Int32} {b_clocks : Int32} {b_held : Bool} {b_kinds : Nat → Int32} {b_operands : Nat → Int32} {b_ties : Nat → Int32} {b_states : Nat → Int32} {b_gone : Nat → Int32} {b_toldIn : Nat → Int32} {b_broughtIn : Nat → Int32} {b_doneIn : Nat → Int32} {c_jobs : Int32} {c_over : Int32} {c_clocks : Int32} {c_held : Bool} {c_kinds : Nat → Int32} {c_operands : Nat → Int32} {c_ties : Nat → Int32} {c_states : Nat → Int32} {c_gone : Nat → Int32} {c_toldIn : Nat → Int32} {c_broughtIn : Nat → Int32} {c_doneIn : Nat → Int32} {d_jobs : Int32} {d_over : Int32} {d_clocks : Int32} {d_held : Bool} {d_kinds : Nat → Int32} {d_operands : Nat → Int32} {d_ties : Nat → Int32} {d_states : Nat → Int32} {d_gone : Nat → Int32} {d_toldIn : Nat → Int32} {d_broughtIn : Nat → Int32} {d_doneIn : Nat → Int32} {z_refusals : Nat → Int32} {p0 : Int32} {o : Int64} (h : f_X10_distance p0 u_width r_first r_second k_first k_second = some o) : Std g l yX10_distance (.code yX10_distance cX10_distance 2 (some .long) :: gw) rm_X10_distance A [.ref (q 0), .int p0] (wX g q z_hasUnit z_hasImage t_length t_bytes x_width x_guard x_stages x_fold x_pipe x_near s_at o_lines n_at o_kinds o_operands o_ties u_width u_guard u_bits u_stages u_places u_near u_quarter u_eighth u_ln u_shifts u_angles u_gains u_undos u_digits r_x r_y r_z r_upBits r_steps r_first r_second v_width v_guard v_bits v_stages v_places v_near v_quarter v_eighth v_ln v_shifts v_angles v_gains v_undos v_digits k_x k_y k_z k_upBits k_steps k_first k_second b_jobs b_over b_clocks b_held b_kinds b_operands b_ties b_states b_gone b_toldIn b_broughtIn b_doneIn c_jobs c_over c_clocks c_held c_kinds c_operands c_ties c_states c_gone c_toldIn c_broughtIn c_doneIn d_jobs d_over d_clocks d_held d_kinds d_operands d_ties d_states d_gone d_toldIn d_broughtIn d_doneIn z_refusals) (wX g q z_hasUnit z_hasImage t_length t_bytes x_width x_guard x_stages x_fold x_pipe x_near s_at o_lines n_at o_kinds o_operands o_ties u_width u_guard u_bits u_stages u_places u_near u_quarter u_eighth u_ln u_shifts u_angles u_gains u_undos u_digits r_x r_y r_z r_upBits r_steps r_first r_second v_width v_guard v_bits v_stages v_places v_near v_quarter v_eighth v_ln v_shifts v_angles v_gains v_undos v_digits k_x k_y k_z k_upBits k_steps k_first k_second b_jobs b_over b_clocks b_held b_kinds b_operands b_ties b_states b_gone b_toldIn b_broughtIn b_doneIn c_jobs c_over c_clocks c_held c_kinds c_operands c_ties c_states c_gone c_toldIn c_broughtIn c_doneIn d_jobs d_over d_clocks d_held d_kinds d_operands d_ties d_states d_gone d_toldIn d_broughtIn d_doneIn z_refusals) (some (.long o)) := by
  refine std_l (own := RX10) (by decide +kernel) rfl (Nat.le_of_ble_eq_true rfl) ?_
  intro p e s m args below meth c Q X ret H locs hP hS ls hl
  have hx := X.1
  have hb := X.2.1
  have hl : lv_has ls 2 [(0, .ref (q 0)), (1, .int p0)] := hl
  have ret : ∀ {H : Heap} {locs : List Loc} {pc : Nat} {ls : Array Slot} {v : Int64} , some (v) = some o → WP g A (wX g q z_hasUnit z_hasImage t_length t_bytes x_width x_guard x_stages x_fold x_pipe x_near s_at o_lines n_at o_kinds o_operands o_ties u_width u_guard u_bits u_stages u_places u_near u_quarter u_eighth u_ln u_shifts u_angles u_gains u_undos u_digits r_x r_y r_z r_upBits r_steps r_first r_second v_width v_guard v_bits v_stages v_places v_near v_quarter v_eighth v_ln v_shifts v_angles v_gains v_undos v_digits k_x k_y k_z k_upBits k_steps k_first k_second b_jobs b_over b_clocks b_held b_kinds b_operands b_ties b_states b_gone b_toldIn b_broughtIn b_doneIn c_jobs c_over c_clocks c_held c_kinds c_operands c_ties c_states c_gone c_toldIn c_broughtIn c_doneIn d_jobs d_over d_clocks d_held d_kinds d_operands d_ties d_states d_gone d_toldIn d_broughtIn d_doneIn z_refusals) H → va_S A s.heap H locs → decode cX10_distance pc = .ok (.lreturn, 1) → W p l e rm_X10_distance s m args below meth c H locs 0 0 Q (F0 m pc ls [.long v]) := by
    intro H locs pc ls v h hP hS hd
    cases h
    exact ret hP hS hd
  unfold f_X10_distance at h
  refine lv_aload_n hx hb dX10_distance_0 rfl (lv_at hl 0 rfl) ?_
  refine gf_X10_46_X_0 X hP dX10_distance_1 ?_
  refine lv_iload_n hx hb dX10_distance_4 rfl (lv_at hl 1 rfl) ?_
  obtain ⟨o1, hco1, h⟩ := bd_of h
  obtain ⟨hF, hFA⟩ := fo_X_Turner_16 hP
  refine kVN (rest := []) X dX10_distance_5 wd_4_9 mw_X7_answer wd_4_11 wp_4_10 hF (k0 := 0) rfl rfl rfl hS hFA (c_X7_answer hco1) rfl hl.1 rfl (Nat.le_of_ble_eq_true rfl) rfl rfl ⟨Nat.le_of_ble_eq_true rfl, Nat.le_of_ble_eq_true rfl⟩ (fun H locs hF1 _ hk hS => ?_)
  have hP := un_X_Turner_16 hP hk hF1
  refine W.eq (g2 := F0 m 8 ls [.long o1]) rfl ?_
  refine lv_bipush (v := 22) hx hb dX10_distance_8 rfl ?_
  refine lv_aload_n hx hb dX10_distance_10 rfl (lv_at hl 0 rfl) ?_
  refine gf_X10_37_X_0 X hP dX10_distance_11 ?_
  refine gf_X10_117_X_10 X hP dX10_distance_14 ?_
  refine lv_isub hx hb dX10_distance_17 ?_
  refine lv_lshl hx hb dX10_distance_18 rfl ?_
  refine lv_aload_n hx hb dX10_distance_19 rfl (lv_at hl 0 rfl) ?_
  refine gf_X10_54_X_0 X hP dX10_distance_20 ?_
  refine lv_iload_n hx hb dX10_distance_23 rfl (lv_at hl 1 rfl) ?_
  obtain ⟨o2, hco2, h⟩ := bd_of h
  obtain ⟨hF, hFA⟩ := fo_X_Turner_23 hP
  refine kVN (rest := [.long (o1 <<< (((22 : Int32) - u_width).toInt64 &&& 63))]) X dX10_distance_24 wd_4_9 mw_X7_answer wd_4_11 wp_4_10 hF (k0 := 0) rfl rfl rfl hS hFA (c_X7_answer hco2) rfl hl.1 rfl (Nat.le_of_ble_eq_true rfl) rfl rfl ⟨Nat.le_of_ble_eq_true rfl, Nat.le_of_ble_eq_true rfl⟩ (fun H locs hF1 _ hk hS => ?_)
  have hP := un_X_Turner_23 hP hk hF1
  refine W.eq (g2 := F0 m 27 ls [.long o2, .long (o1 <<< (((22 : Int32) - u_width).toInt64 &&& 63))]) rfl ?_
  refine lv_lsub hx hb dX10_distance_27 ?_
  obtain ⟨o3, hco3, h⟩ := bd_of h
  refine kS (rest := []) X dX10_distance_28 wd_4_191 mw_J9_abs_067f4 wd_3_171 hP hS (fun _ z => z) (c_J9_abs_067f4 hco3) rfl hl.1 rfl (Nat.le_of_ble_eq_true rfl) rfl rfl ⟨Nat.le_of_ble_eq_true rfl, Nat.le_of_ble_eq_true rfl⟩ (fun H locs hP _ _ hS => ?_)
  refine W.eq (g2 := F0 m 31 ls [.long o3]) rfl ?_
  exact ret h hP hS dX10_distance_31
abbrev rm_X10_apart : Room := { frames := 6, cells := 0, slots := 0, locals := 162 }
set_option maxRecDepth 100000 in
set_option maxHeartbeats 4000000 in
theorem c_X10_apart {g : gT} {l : Launch} {A : Nat → Prop} {q : Nat → Nat} {z_hasUnit : Bool} {z_hasImage : Bool} {t_length : Int32} {t_bytes : Nat → Int32} {x_width : Int32} {x_guard : Int32} {x_stages : Int32} {x_fold : Int32} {x_pipe : Bool} {x_near : Bool} {s_at : Int32} {o_lines : Int32} {n_at : Int32} {o_kinds : Nat → Int32} {o_operands : Nat → Int32} {o_ties : Nat → Int32} {u_width : Int32} {u_guard : Int32} {u_bits : Int32} {u_stages : Int32} {u_places : Int32} {u_near : Bool} {u_quarter : Int64} {u_eighth : Int64} {u_ln : Int64} {u_shifts : Nat → Int32} {u_angles : Nat → Int64} {u_gains : Nat → Int64} {u_undos : Nat → Int64} {u_digits : Nat → Int32} {r_x : Int64} {r_y : Int64} {r_z : Int64} {r_upBits : Int32} {r_steps : Int32} {r_first : Int64} {r_second : Int64} {v_width : Int32} {v_guard : Int32} {v_bits : Int32} {v_stages : Int32} {v_places : Int32} {v_near : Bool} {v_quarter : Int64} {v_eighth : Int64} {v_ln : Int64} {v_shifts : Nat → Int32} {v_angles : Nat → Int64} {v_gains : Nat → Int64} {v_undos : Nat → Int64} {v_digits : Nat → Int32} {k_x : Int64} {k_y : Int64} {k_z : Int64} {k_upBits : Int32} {k_steps : Int32} {k_first : Int64} {k_second : Int64} {b_jobs : Int32} {b_over : Int32} {b_clocks : Int32} {b_held : Bool} {b_kinds : Nat → Int32} {b_operands : Nat → Int32} {b_ties : Nat → Int32} {b_states : Nat → Int32} {b_gone : Nat → Int32} {b_toldIn : Nat → Int32} {b_broughtIn : Nat → Int32} {b_doneIn : Nat → Int32} {c_jobs : Int32} {c_over : Int32} {c_clocks : Int32} {c_held : Bool} {c_kinds : Nat → Int32} {c_operands : Nat → Int32} {c_ties : Nat → Int32} {c_states : Nat → Int32} {c_gone : Nat → Int32} {c_toldIn : Nat → Int32} {c_broughtIn : Nat → Int32} {c_doneIn : Nat → Int32} {d_jobs : Int32} {d_over : Int32} {d_clocks : Int32} {d_held : Bool} {d_kinds : Nat → Int32} {d_operands : Nat → Int32} {d_ties : Nat → Int32} {d_states : Nat → Int32} {d_gone : Nat → Int32} {d_toldIn : Nat → Int32} {d_broughtIn : Nat → Int32} {d_doneIn : Nat → Int32} {z_refusals : Nat → Int32} {p0 : Int32} {p1 : Int32} {p2 : Int32} {p3 : Int32} {p4 : Int32} {o : Int64 × Int64 × Int64 × Int64 × Int32 × Int32 × Int64 × Int64 × Int64 × Int64 × Int64 × Int32 × Int32 × Int64 × Int64} (h : f_X10_apart p0 p1 p2 p3 p4 z_hasUnit u_width u_guard u_bits u_stages u_near u_quarter u_ln u_shifts u_angles u_undos u_digits r_x r_y r_z r_upBits r_steps r_first r_second v_width v_guard v_bits v_stages v_near v_quarter v_ln v_shifts v_angles v_undos v_digits k_x k_y k_z k_upBits k_steps k_first k_second = some o) : Std g l yX10_apart (.code yX10_apart cX10_apart 6 (some .long) :: gw) rm_X10_apart A [.ref (q 0), .int p0, .int p1, .int p2, .int p3, .int p4] (wX g q z_hasUnit z_hasImage t_length t_bytes x_width x_guard x_stages x_fold x_pipe x_near s_at o_lines n_at o_kinds o_operands o_ties u_width u_guard u_bits u_stages u_places u_near u_quarter u_eighth u_ln u_shifts u_angles u_gains u_undos u_digits r_x r_y r_z r_upBits r_steps r_first r_second v_width v_guard v_bits v_stages v_places v_near v_quarter v_eighth v_ln v_shifts v_angles v_gains v_undos v_digits k_x k_y k_z k_upBits k_steps k_first k_second b_jobs b_over b_clocks b_held b_kinds b_operands b_ties b_states b_gone b_toldIn b_broughtIn b_doneIn c_jobs c_over c_clocks c_held c_kinds c_operands c_ties c_states c_gone c_toldIn c_broughtIn c_doneIn d_jobs d_over d_clocks d_held d_kinds d_operands d_ties d_states d_gone d_toldIn d_broughtIn d_doneIn z_refusals) (wX g q z_hasUnit z_hasImage t_length t_bytes x_width x_guard x_stages x_fold x_pipe x_near s_at o_lines n_at o_kinds o_operands o_ties u_width u_guard u_bits u_stages u_places u_near u_quarter u_eighth u_ln u_shifts u_angles u_gains u_undos u_digits o.2.1 o.2.2.1 o.2.2.2.1 o.2.2.2.2.1 o.2.2.2.2.2.1 o.2.2.2.2.2.2.1 o.2.2.2.2.2.2.2.1 v_width v_guard v_bits v_stages v_places v_near v_quarter v_eighth v_ln v_shifts v_angles v_gains v_undos v_digits o.2.2.2.2.2.2.2.2.1 o.2.2.2.2.2.2.2.2.2.1 o.2.2.2.2.2.2.2.2.2.2.1 o.2.2.2.2.2.2.2.2.2.2.2.1 o.2.2.2.2.2.2.2.2.2.2.2.2.1 o.2.2.2.2.2.2.2.2.2.2.2.2.2.1 o.2.2.2.2.2.2.2.2.2.2.2.2.2.2 b_jobs b_over b_clocks b_held b_kinds b_operands b_ties b_states b_gone b_toldIn b_broughtIn b_doneIn c_jobs c_over c_clocks c_held c_kinds c_operands c_ties c_states c_gone c_toldIn c_broughtIn c_doneIn d_jobs d_over d_clocks d_held d_kinds d_operands d_ties d_states d_gone d_toldIn d_broughtIn d_doneIn z_refusals) (some (.long o.1)) := by
  refine std_l (own := RX10) (by decide +kernel) rfl (Nat.le_of_ble_eq_true rfl) ?_
  intro p e s m args below meth c Q X ret H locs hP hS ls hl
  have hx := X.1
  have hb := X.2.1
  have hl : lv_has ls 6 [(0, .ref (q 0)), (1, .int p0), (2, .int p1), (3, .int p2), (4, .int p3), (5, .int p4)] := hl
  have ret : ∀ {H : Heap} {locs : List Loc} {pc : Nat} {ls : Array Slot} {v : Int64} {r_x : Int64} {r_y : Int64} {r_z : Int64} {r_upBits : Int32} {r_steps : Int32} {r_first : Int64} {r_second : Int64} {k_x : Int64} {k_y : Int64} {k_z : Int64} {k_upBits : Int32} {k_steps : Int32} {k_first : Int64} {k_second : Int64}, some (v, r_x, r_y, r_z, r_upBits, r_steps, r_first, r_second, k_x, k_y, k_z, k_upBits, k_steps, k_first, k_second) = some o → WP g A (wX g q z_hasUnit z_hasImage t_length t_bytes x_width x_guard x_stages x_fold x_pipe x_near s_at o_lines n_at o_kinds o_operands o_ties u_width u_guard u_bits u_stages u_places u_near u_quarter u_eighth u_ln u_shifts u_angles u_gains u_undos u_digits r_x r_y r_z r_upBits r_steps r_first r_second v_width v_guard v_bits v_stages v_places v_near v_quarter v_eighth v_ln v_shifts v_angles v_gains v_undos v_digits k_x k_y k_z k_upBits k_steps k_first k_second b_jobs b_over b_clocks b_held b_kinds b_operands b_ties b_states b_gone b_toldIn b_broughtIn b_doneIn c_jobs c_over c_clocks c_held c_kinds c_operands c_ties c_states c_gone c_toldIn c_broughtIn c_doneIn d_jobs d_over d_clocks d_held d_kinds d_operands d_ties d_states d_gone d_toldIn d_broughtIn d_doneIn z_refusals) H → va_S A s.heap H locs → decode cX10_apart pc = .ok (.lreturn, 1) → W p l e rm_X10_apart s m args below meth c H locs 0 0 Q (F0 m pc ls [.long v]) := by
    intro H locs pc ls v r_x r_y r_z r_upBits r_steps r_first r_second k_x k_y k_z k_upBits k_steps k_first k_second h hP hS hd
    cases h
    exact ret hP hS hd
  have b31 : ∀ (r_x : Int64) (r_y : Int64) (r_z : Int64) (r_upBits : Int32) (r_steps : Int32) (r_first : Int64) (r_second : Int64) (k_x : Int64) (k_y : Int64) (k_z : Int64) (k_upBits : Int32) (k_steps : Int32) (k_first : Int64) (k_second : Int64) (H : Heap) (locs : List Loc) (ls : Array Slot), f_X10_apart_b31  z_hasUnit u_width u_guard u_bits u_stages u_near u_quarter u_ln u_shifts u_angles u_undos u_digits v_width v_guard v_bits v_stages v_near v_quarter v_ln v_shifts v_angles v_undos v_digits  r_x r_y r_z r_upBits r_steps r_first r_second k_x k_y k_z k_upBits k_steps k_first k_second = some o → WP g A (wX g q z_hasUnit z_hasImage t_length t_bytes x_width x_guard x_stages x_fold x_pipe x_near s_at o_lines n_at o_kinds o_operands o_ties u_width u_guard u_bits u_stages u_places u_near u_quarter u_eighth u_ln u_shifts u_angles u_gains u_undos u_digits r_x r_y r_z r_upBits r_steps r_first r_second v_width v_guard v_bits v_stages v_places v_near v_quarter v_eighth v_ln v_shifts v_angles v_gains v_undos v_digits k_x k_y k_z k_upBits k_steps k_first k_second b_jobs b_over b_clocks b_held b_kinds b_operands b_ties b_states b_gone b_toldIn b_broughtIn b_doneIn c_jobs c_over c_clocks c_held c_kinds c_operands c_ties c_states c_gone c_toldIn c_broughtIn c_doneIn d_jobs d_over d_clocks d_held d_kinds d_operands d_ties d_states d_gone d_toldIn d_broughtIn d_doneIn z_refusals) H → va_S A s.heap H locs → lv_has ls 6 [] → W p l e rm_X10_apart s m args below meth c H locs 0 0 Q (F0 m 31 ls []) := by
    intro  r_x r_y r_z r_upBits r_steps r_first r_second k_x k_y k_z k_upBits k_steps k_first k_second H locs ls h hP hS hl
    unfold f_X10_apart_b31 at h
    refine lv_ldc2 (v := (-2147483648)) hx hb X.2.2.2.1 (X.2.2.2.2.1 _ wd_4_186) dX10_apart_31 ?_
    exact ret h hP hS dX10_apart_34
  unfold f_X10_apart at h
  refine lv_aload_n hx hb dX10_apart_0 rfl (lv_at hl 0 rfl) ?_
  refine lv_iload_n hx hb dX10_apart_1 rfl (lv_at hl 1 rfl) ?_
  obtain ⟨o1, hco1, h⟩ := bd_of h
  refine kV (rest := []) X dX10_apart_2 wd_3_141 mw_X10_isKind wd_3_143 wp_3_8 hP (k0 := 0) rfl rfl rfl hS (fun _ z => z) (c_X10_isKind hco1) rfl hl.1 rfl (Nat.le_of_ble_eq_true rfl) rfl rfl ⟨Nat.le_of_ble_eq_true rfl, Nat.le_of_ble_eq_true rfl⟩ (fun H locs hP _ _ hS => ?_)
  refine W.eq (g2 := F0 m 5 ls [.int (bI o1)]) rfl ?_
  refine rb_eq (tgt := 31) hx hb dX10_apart_5 rfl (fun c5 => ?_) (fun c5 => ?_)
  · have h := br_n c5 h
    exact b31   r_x r_y r_z r_upBits r_steps r_first r_second k_x k_y k_z k_upBits k_steps k_first k_second _ _ _ h hP hS (lv_sub hl [] rfl)
  · have h := br_p c5 h
    refine lv_iload hx hb dX10_apart_8 (lv_at hl 5 rfl) ?_
    obtain ⟨o2, hco2, h⟩ := bd_of h
    refine kS (rest := []) X dX10_apart_10 wd_3_146 mw_X10_isEither wd_3_147 hP hS (fun _ z => z) (c_X10_isEither hco2) rfl hl.1 rfl (Nat.le_of_ble_eq_true rfl) rfl rfl ⟨Nat.le_of_ble_eq_true rfl, Nat.le_of_ble_eq_true rfl⟩ (fun H locs hP _ _ hS => ?_)
    refine W.eq (g2 := F0 m 13 ls [.int (bI o2)]) rfl ?_
    refine rb_eq (tgt := 31) hx hb dX10_apart_13 rfl (fun c13 => ?_) (fun c13 => ?_)
    · have h := br_n c13 h
      exact b31   r_x r_y r_z r_upBits r_steps r_first r_second k_x k_y k_z k_upBits k_steps k_first k_second _ _ _ h hP hS (lv_sub hl [] rfl)
    · have h := br_p c13 h
      refine lv_aload_n hx hb dX10_apart_16 rfl (lv_at hl 0 rfl) ?_
      refine lv_iload_n hx hb dX10_apart_17 rfl (lv_at hl 1 rfl) ?_
      refine lv_iload_n hx hb dX10_apart_18 rfl (lv_at hl 2 rfl) ?_
      refine lv_i2l hx hb dX10_apart_19 rfl ?_
      refine lv_iload_n hx hb dX10_apart_20 rfl (lv_at hl 3 rfl) ?_
      refine lv_i2l hx hb dX10_apart_21 rfl ?_
      refine lv_iload hx hb dX10_apart_22 (lv_at hl 4 rfl) ?_
      refine lv_i2l hx hb dX10_apart_24 rfl ?_
      obtain ⟨o3, hco3, h⟩ := bd_of h
      refine kV (rest := []) X dX10_apart_25 wd_4_178 mw_X10_solveBoth wd_4_180 wp_6_1 hP (k0 := 0) rfl rfl rfl hS (fun _ z => z) (c_X10_solveBoth hco3) rfl hl.1 rfl (Nat.le_of_ble_eq_true rfl) rfl rfl ⟨Nat.le_of_ble_eq_true rfl, Nat.le_of_ble_eq_true rfl⟩ (fun H locs hP _ _ hS => ?_)
      refine W.eq (g2 := F0 m 28 ls [.int (bI o3.1)]) rfl ?_
      refine rb_ne (tgt := 35) hx hb dX10_apart_28 rfl (fun c28 => ?_) (fun c28 => ?_)
      · have h := br_p c28 h
        refine lv_aload_n hx hb dX10_apart_35 rfl (lv_at hl 0 rfl) ?_
        refine lv_iload hx hb dX10_apart_36 (lv_at hl 5 rfl) ?_
        obtain ⟨o4, hco4, h⟩ := bd_of h
        refine kV (rest := []) X dX10_apart_38 wd_4_187 mw_X10_distance wd_4_189 wp_6_2 hP (k0 := 0) rfl rfl rfl hS (fun _ z => z) (c_X10_distance hco4) rfl hl.1 rfl (Nat.le_of_ble_eq_true rfl) rfl rfl ⟨Nat.le_of_ble_eq_true rfl, Nat.le_of_ble_eq_true rfl⟩ (fun H locs hP _ _ hS => ?_)
        refine W.eq (g2 := F0 m 41 ls [.long o4]) rfl ?_
        exact ret h hP hS dX10_apart_41
      · have h := br_n c28 h
        exact b31   o3.2.1 o3.2.2.1 o3.2.2.2.1 o3.2.2.2.2.1 o3.2.2.2.2.2.1 o3.2.2.2.2.2.2.1 o3.2.2.2.2.2.2.2.1 o3.2.2.2.2.2.2.2.2.1 o3.2.2.2.2.2.2.2.2.2.1 o3.2.2.2.2.2.2.2.2.2.2.1 o3.2.2.2.2.2.2.2.2.2.2.2.1 o3.2.2.2.2.2.2.2.2.2.2.2.2.1 o3.2.2.2.2.2.2.2.2.2.2.2.2.2.1 o3.2.2.2.2.2.2.2.2.2.2.2.2.2.2 _ _ _ h hP hS (lv_sub hl [] rfl)
abbrev rm_X10_fewest : Room := { frames := 1, cells := 0, slots := 0, locals := 26 }
set_option maxRecDepth 100000 in
set_option maxHeartbeats 4000000 in
theorem c_X10_fewest {g : gT} {l : Launch} {A : Nat → Prop} {q : Nat → Nat} {z_hasUnit : Bool} {z_hasImage : Bool} {t_length : Int32} {t_bytes : Nat → Int32} {x_width : Int32} {x_guard : Int32} {x_stages : Int32} {x_fold : Int32} {x_pipe : Bool} {x_near : Bool} {s_at : Int32} {o_lines : Int32} {n_at : Int32} {o_kinds : Nat → Int32} {o_operands : Nat → Int32} {o_ties : Nat → Int32} {u_width : Int32} {u_guard : Int32} {u_bits : Int32} {u_stages : Int32} {u_places : Int32} {u_near : Bool} {u_quarter : Int64} {u_eighth : Int64} {u_ln : Int64} {u_shifts : Nat → Int32} {u_angles : Nat → Int64} {u_gains : Nat → Int64} {u_undos : Nat → Int64} {u_digits : Nat → Int32} {r_x : Int64} {r_y : Int64} {r_z : Int64} {r_upBits : Int32} {r_steps : Int32} {r_first : Int64} {r_second : Int64} {v_width : Int32} {v_guard : Int32} {v_bits : Int32} {v_stages : Int32} {v_places : Int32} {v_near : Bool} {v_quarter : Int64} {v_eighth : Int64} {v_ln : Int64} {v_shifts : Nat → Int32} {v_angles : Nat → Int64} {v_gains : Nat → Int64} {v_undos : Nat → Int64} {v_digits : Nat → Int32} {k_x : Int64} {k_y : Int64} {k_z : Int64} {k_upBits : Int32} {k_steps : Int32} {k_first : Int64} {k_second : Int64} {b_jobs : Int32} {b_over : Int32} {b_clocks : Int32} {b_held : Bool} {b_kinds : Nat → Int32} {b_operands : Nat → Int32} {b_ties : Nat → Int32} {b_states : Nat → Int32} {b_gone : Nat → Int32} {b_toldIn : Nat → Int32} {b_broughtIn : Nat → Int32} {b_doneIn : Nat → Int32} {c_jobs : Int32} {c_over : Int32} {c_clocks : Int32} {c_held : Bool} {c_kinds : Nat → Int32} {c_operands : Nat → Int32} {c_ties : Nat → Int32} {c_states : Nat → Int32} {c_gone : Nat → Int32} {c_toldIn : Nat → Int32} {c_broughtIn : Nat → Int32} {c_doneIn : Nat → Int32} {d_jobs : Int32} {d_over : Int32} {d_clocks : Int32} {d_held : Bool} {d_kinds : Nat → Int32} {d_operands : Nat → Int32} {d_ties : Nat → Int32} {d_states : Nat → Int32} {d_gone : Nat → Int32} {d_toldIn : Nat → Int32} {d_broughtIn : Nat → Int32} {d_doneIn : Nat → Int32} {z_refusals : Nat → Int32} {p0 : Int32} {p1 : Int32} {o : Int32} (h : f_X10_fewest p0 p1 z_hasUnit u_guard u_angles = some o) : Std g l yX10_fewest (.code yX10_fewest cX10_fewest 4 (some .int) :: gw) rm_X10_fewest A [.ref (q 0), .int p0, .int p1] (wX g q z_hasUnit z_hasImage t_length t_bytes x_width x_guard x_stages x_fold x_pipe x_near s_at o_lines n_at o_kinds o_operands o_ties u_width u_guard u_bits u_stages u_places u_near u_quarter u_eighth u_ln u_shifts u_angles u_gains u_undos u_digits r_x r_y r_z r_upBits r_steps r_first r_second v_width v_guard v_bits v_stages v_places v_near v_quarter v_eighth v_ln v_shifts v_angles v_gains v_undos v_digits k_x k_y k_z k_upBits k_steps k_first k_second b_jobs b_over b_clocks b_held b_kinds b_operands b_ties b_states b_gone b_toldIn b_broughtIn b_doneIn c_jobs c_over c_clocks c_held c_kinds c_operands c_ties c_states c_gone c_toldIn c_broughtIn c_doneIn d_jobs d_over d_clocks d_held d_kinds d_operands d_ties d_states d_gone d_toldIn d_broughtIn d_doneIn z_refusals) (wX g q z_hasUnit z_hasImage t_length t_bytes x_width x_guard x_stages x_fold x_pipe x_near s_at o_lines n_at o_kinds o_operands o_ties u_width u_guard u_bits u_stages u_places u_near u_quarter u_eighth u_ln u_shifts u_angles u_gains u_undos u_digits r_x r_y r_z r_upBits r_steps r_first r_second v_width v_guard v_bits v_stages v_places v_near v_quarter v_eighth v_ln v_shifts v_angles v_gains v_undos v_digits k_x k_y k_z k_upBits k_steps k_first k_second b_jobs b_over b_clocks b_held b_kinds b_operands b_ties b_states b_gone b_toldIn b_broughtIn b_doneIn c_jobs c_over c_clocks c_held c_kinds c_operands c_ties c_states c_gone c_toldIn c_broughtIn c_doneIn d_jobs d_over d_clocks d_held d_kinds d_operands d_ties d_states d_gone d_toldIn d_broughtIn d_doneIn z_refusals) (some (.int o)) := by
  refine std_i (own := RX10) (by decide +kernel) rfl (Nat.le_of_ble_eq_true rfl) ?_
  intro p e s m args below meth c Q X ret H locs hP hS ls hl
  have hx := X.1
  have hb := X.2.1
  have hl : lv_has ls 4 [(0, .ref (q 0)), (1, .int p0), (2, .int p1)] := hl
  have ret : ∀ {H : Heap} {locs : List Loc} {pc : Nat} {ls : Array Slot} {v : Int32} , some (v) = some o → WP g A (wX g q z_hasUnit z_hasImage t_length t_bytes x_width x_guard x_stages x_fold x_pipe x_near s_at o_lines n_at o_kinds o_operands o_ties u_width u_guard u_bits u_stages u_places u_near u_quarter u_eighth u_ln u_shifts u_angles u_gains u_undos u_digits r_x r_y r_z r_upBits r_steps r_first r_second v_width v_guard v_bits v_stages v_places v_near v_quarter v_eighth v_ln v_shifts v_angles v_gains v_undos v_digits k_x k_y k_z k_upBits k_steps k_first k_second b_jobs b_over b_clocks b_held b_kinds b_operands b_ties b_states b_gone b_toldIn b_broughtIn b_doneIn c_jobs c_over c_clocks c_held c_kinds c_operands c_ties c_states c_gone c_toldIn c_broughtIn c_doneIn d_jobs d_over d_clocks d_held d_kinds d_operands d_ties d_states d_gone d_toldIn d_broughtIn d_doneIn z_refusals) H → va_S A s.heap H locs → decode cX10_fewest pc = .ok (.ireturn, 1) → W p l e rm_X10_fewest s m args below meth c H locs 0 0 Q (F0 m pc ls [.int v]) := by
    intro H locs pc ls v h hP hS hd
    cases h
    exact ret hP hS hd
  have l12 : ∀ (n : Nat), ∀ (x1 : Int32) (x2 : Int32) (x3 : Int32) (H : Heap) (locs : List Loc) (ls : Array Slot), f_X10_fewest_l12  z_hasUnit u_guard u_angles  n x1 x2 x3 = some o → WP g A (wX g q z_hasUnit z_hasImage t_length t_bytes x_width x_guard x_stages x_fold x_pipe x_near s_at o_lines n_at o_kinds o_operands o_ties u_width u_guard u_bits u_stages u_places u_near u_quarter u_eighth u_ln u_shifts u_angles u_gains u_undos u_digits r_x r_y r_z r_upBits r_steps r_first r_second v_width v_guard v_bits v_stages v_places v_near v_quarter v_eighth v_ln v_shifts v_angles v_gains v_undos v_digits k_x k_y k_z k_upBits k_steps k_first k_second b_jobs b_over b_clocks b_held b_kinds b_operands b_ties b_states b_gone b_toldIn b_broughtIn b_doneIn c_jobs c_over c_clocks c_held c_kinds c_operands c_ties c_states c_gone c_toldIn c_broughtIn c_doneIn d_jobs d_over d_clocks d_held d_kinds d_operands d_ties d_states d_gone d_toldIn d_broughtIn d_doneIn z_refusals) H → va_S A s.heap H locs → lv_has ls 4 [(0, .ref (q 0)), (1, .int x1), (2, .int x2), (3, .int x3)] → W p l e rm_X10_fewest s m args below meth c H locs 0 0 Q (F0 m 12 ls []) := by
    intro  n
    induction n with
    | zero =>
      intro x1 x2 x3 H locs ls h
      exact nz_of h
    | succ n ih =>
      intro x1 x2 x3 H locs ls h hP hS hl
      rw [f_X10_fewest_l12] at h
      refine lv_iload_n hx hb dX10_fewest_12 rfl (lv_at hl 3 rfl) ?_
      refine lv_bipush (v := 24) hx hb dX10_fewest_13 rfl ?_
      refine lv_icmp_gt (tgt := 41) hx hb dX10_fewest_15 rfl (fun c15 => ?_) (fun c15 => ?_)
      · have h := br_p c15 h
        refine lv_iconst (v := (-1)) hx hb dX10_fewest_41 rfl ?_
        exact ret h hP hS dX10_fewest_42
      · have h := br_n c15 h
        refine lv_aload_n hx hb dX10_fewest_18 rfl (lv_at hl 0 rfl) ?_
        refine gf_X10_37_X_0 X hP dX10_fewest_19 ?_
        refine lv_iload_n hx hb dX10_fewest_22 rfl (lv_at hl 1 rfl) ?_
        refine lv_iload_n hx hb dX10_fewest_23 rfl (lv_at hl 3 rfl) ?_
        obtain ⟨o2, hco2, h⟩ := bd_of h
        obtain ⟨hF, hFA⟩ := fo_X_Unit_10 hP
        refine kVN (rest := []) X dX10_fewest_24 wd_4_21 mw_X8_farthest wd_4_23 wp_4_12 hF (k0 := 0) rfl rfl rfl hS hFA (c_X8_farthest hco2) rfl hl.1 rfl (Nat.le_of_ble_eq_true rfl) rfl rfl ⟨Nat.le_of_ble_eq_true rfl, Nat.le_of_ble_eq_true rfl⟩ (fun H locs hF1 _ hk hS => ?_)
        have hP := un_X_Unit_10 hP hk hF1
        refine W.eq (g2 := F0 m 27 ls [.long o2]) rfl ?_
        refine lv_iload_n hx hb dX10_fewest_27 rfl (lv_at hl 2 rfl) ?_
        refine lv_i2l hx hb dX10_fewest_28 rfl ?_
        refine rl_gt (tgt := 35) hx hb dX10_fewest_29 dX10_fewest_30 rfl (fun c29 => ?_) (fun c29 => ?_)
        · have h := br_p c29 h
          obtain ⟨v3, ev3⟩ : ∃ z : Int32, z = (x3 + 1) := ⟨_, rfl⟩
          have h := lt_at ev3 h
          refine lv_iinc (v := v3) (lv' := [(3, .int v3), (0, .ref (q 0)), (1, .int x1), (2, .int x2)]) hx hb dX10_fewest_35 hl (k := 3) rfl (by rw [ev3]; rfl) (by decide) rfl (fun ls hl => ?_)
          refine lv_goto (tgt := 12) hx hb dX10_fewest_38 rfl ?_
          exact ih x1 x2 v3 _ _ _ h hP hS (lv_sub hl [1, 2, 3, 0] rfl)
        · have h := br_n c29 h
          refine lv_iload_n hx hb dX10_fewest_33 rfl (lv_at hl 3 rfl) ?_
          exact ret h hP hS dX10_fewest_34
  unfold f_X10_fewest at h
  refine lv_aload_n hx hb dX10_fewest_0 rfl (lv_at hl 0 rfl) ?_
  refine lv_iload_n hx hb dX10_fewest_1 rfl (lv_at hl 1 rfl) ?_
  obtain ⟨o1, hco1, h⟩ := bd_of h
  refine kV (rest := []) X dX10_fewest_2 wd_4_17 mw_X10_isBounded wd_4_19 wp_4_11 hP (k0 := 0) rfl rfl rfl hS (fun _ z => z) (c_X10_isBounded hco1) rfl hl.1 rfl (Nat.le_of_ble_eq_true rfl) rfl rfl ⟨Nat.le_of_ble_eq_true rfl, Nat.le_of_ble_eq_true rfl⟩ (fun H locs hP _ _ hS => ?_)
  refine W.eq (g2 := F0 m 5 ls [.int (bI o1)]) rfl ?_
  refine rb_ne (tgt := 10) hx hb dX10_fewest_5 rfl (fun c5 => ?_) (fun c5 => ?_)
  · have h := br_p c5 h
    refine lv_iconst (v := 5) hx hb dX10_fewest_10 rfl ?_
    refine lv_istore_n (lv' := [(3, .int 5), (0, .ref (q 0)), (1, .int p0), (2, .int p1)]) hx hb dX10_fewest_11 rfl hl (by decide) rfl (fun ls hl => ?_)
    exact l12  FU p0 p1 (5 : Int32) _ _ _ h hP hS (lv_sub hl [1, 2, 3, 0] rfl)
  · have h := br_n c5 h
    refine lv_iconst (v := (-1)) hx hb dX10_fewest_8 rfl ?_
    exact ret h hP hS dX10_fewest_9
abbrev rm_X10_sweep : Room := { frames := 6, cells := 0, slots := 0, locals := 162 }
set_option maxRecDepth 100000 in
set_option maxHeartbeats 4000000 in
theorem c_X10_sweep {g : gT} {l : Launch} {A : Nat → Prop} {q : Nat → Nat} {z_hasUnit : Bool} {z_hasImage : Bool} {t_length : Int32} {t_bytes : Nat → Int32} {x_width : Int32} {x_guard : Int32} {x_stages : Int32} {x_fold : Int32} {x_pipe : Bool} {x_near : Bool} {s_at : Int32} {o_lines : Int32} {n_at : Int32} {o_kinds : Nat → Int32} {o_operands : Nat → Int32} {o_ties : Nat → Int32} {u_width : Int32} {u_guard : Int32} {u_bits : Int32} {u_stages : Int32} {u_places : Int32} {u_near : Bool} {u_quarter : Int64} {u_eighth : Int64} {u_ln : Int64} {u_shifts : Nat → Int32} {u_angles : Nat → Int64} {u_gains : Nat → Int64} {u_undos : Nat → Int64} {u_digits : Nat → Int32} {r_x : Int64} {r_y : Int64} {r_z : Int64} {r_upBits : Int32} {r_steps : Int32} {r_first : Int64} {r_second : Int64} {v_width : Int32} {v_guard : Int32} {v_bits : Int32} {v_stages : Int32} {v_places : Int32} {v_near : Bool} {v_quarter : Int64} {v_eighth : Int64} {v_ln : Int64} {v_shifts : Nat → Int32} {v_angles : Nat → Int64} {v_gains : Nat → Int64} {v_undos : Nat → Int64} {v_digits : Nat → Int32} {k_x : Int64} {k_y : Int64} {k_z : Int64} {k_upBits : Int32} {k_steps : Int32} {k_first : Int64} {k_second : Int64} {b_jobs : Int32} {b_over : Int32} {b_clocks : Int32} {b_held : Bool} {b_kinds : Nat → Int32} {b_operands : Nat → Int32} {b_ties : Nat → Int32} {b_states : Nat → Int32} {b_gone : Nat → Int32} {b_toldIn : Nat → Int32} {b_broughtIn : Nat → Int32} {b_doneIn : Nat → Int32} {c_jobs : Int32} {c_over : Int32} {c_clocks : Int32} {c_held : Bool} {c_kinds : Nat → Int32} {c_operands : Nat → Int32} {c_ties : Nat → Int32} {c_states : Nat → Int32} {c_gone : Nat → Int32} {c_toldIn : Nat → Int32} {c_broughtIn : Nat → Int32} {c_doneIn : Nat → Int32} {d_jobs : Int32} {d_over : Int32} {d_clocks : Int32} {d_held : Bool} {d_kinds : Nat → Int32} {d_operands : Nat → Int32} {d_ties : Nat → Int32} {d_states : Nat → Int32} {d_gone : Nat → Int32} {d_toldIn : Nat → Int32} {d_broughtIn : Nat → Int32} {d_doneIn : Nat → Int32} {z_refusals : Nat → Int32} {p0 : Int32} {p1 : Int32} {p2 : Int32} {p3 : Int32} {p4 : Int32} {o : Int64 × Int64 × Int64 × Int64 × Int32 × Int32 × Int64 × Int64 × Int64 × Int64 × Int64 × Int32 × Int32 × Int64 × Int64} (h : f_X10_sweep p0 p1 p2 p3 p4 z_hasUnit u_width u_guard u_bits u_stages u_near u_quarter u_ln u_shifts u_angles u_undos u_digits r_x r_y r_z r_upBits r_steps r_first r_second v_width v_guard v_bits v_stages v_near v_quarter v_ln v_shifts v_angles v_undos v_digits k_x k_y k_z k_upBits k_steps k_first k_second = some o) : Std g l yX10_sweep (.code yX10_sweep cX10_sweep 19 (some .long) :: gw) rm_X10_sweep A [.ref (q 0), .int p0, .int p1, .int p2, .int p3, .int p4] (wX g q z_hasUnit z_hasImage t_length t_bytes x_width x_guard x_stages x_fold x_pipe x_near s_at o_lines n_at o_kinds o_operands o_ties u_width u_guard u_bits u_stages u_places u_near u_quarter u_eighth u_ln u_shifts u_angles u_gains u_undos u_digits r_x r_y r_z r_upBits r_steps r_first r_second v_width v_guard v_bits v_stages v_places v_near v_quarter v_eighth v_ln v_shifts v_angles v_gains v_undos v_digits k_x k_y k_z k_upBits k_steps k_first k_second b_jobs b_over b_clocks b_held b_kinds b_operands b_ties b_states b_gone b_toldIn b_broughtIn b_doneIn c_jobs c_over c_clocks c_held c_kinds c_operands c_ties c_states c_gone c_toldIn c_broughtIn c_doneIn d_jobs d_over d_clocks d_held d_kinds d_operands d_ties d_states d_gone d_toldIn d_broughtIn d_doneIn z_refusals) (wX g q z_hasUnit z_hasImage t_length t_bytes x_width x_guard x_stages x_fold x_pipe x_near s_at o_lines n_at o_kinds o_operands o_ties u_width u_guard u_bits u_stages u_places u_near u_quarter u_eighth u_ln u_shifts u_angles u_gains u_undos u_digits o.2.1 o.2.2.1 o.2.2.2.1 o.2.2.2.2.1 o.2.2.2.2.2.1 o.2.2.2.2.2.2.1 o.2.2.2.2.2.2.2.1 v_width v_guard v_bits v_stages v_places v_near v_quarter v_eighth v_ln v_shifts v_angles v_gains v_undos v_digits o.2.2.2.2.2.2.2.2.1 o.2.2.2.2.2.2.2.2.2.1 o.2.2.2.2.2.2.2.2.2.2.1 o.2.2.2.2.2.2.2.2.2.2.2.1 o.2.2.2.2.2.2.2.2.2.2.2.2.1 o.2.2.2.2.2.2.2.2.2.2.2.2.2.1 o.2.2.2.2.2.2.2.2.2.2.2.2.2.2 b_jobs b_over b_clocks b_held b_kinds b_operands b_ties b_states b_gone b_toldIn b_broughtIn b_doneIn c_jobs c_over c_clocks c_held c_kinds c_operands c_ties c_states c_gone c_toldIn c_broughtIn c_doneIn d_jobs d_over d_clocks d_held d_kinds d_operands d_ties d_states d_gone d_toldIn d_broughtIn d_doneIn z_refusals) (some (.long o.1)) := by
  refine std_l (own := RX10) (by decide +kernel) rfl (Nat.le_of_ble_eq_true rfl) ?_
  intro p e s m args below meth c Q X ret H locs hP hS ls hl
  have hx := X.1
  have hb := X.2.1
  have hl : lv_has ls 19 [(0, .ref (q 0)), (1, .int p0), (2, .int p1), (3, .int p2), (4, .int p3), (5, .int p4)] := hl
  have ret : ∀ {H : Heap} {locs : List Loc} {pc : Nat} {ls : Array Slot} {v : Int64} {r_x : Int64} {r_y : Int64} {r_z : Int64} {r_upBits : Int32} {r_steps : Int32} {r_first : Int64} {r_second : Int64} {k_x : Int64} {k_y : Int64} {k_z : Int64} {k_upBits : Int32} {k_steps : Int32} {k_first : Int64} {k_second : Int64}, some (v, r_x, r_y, r_z, r_upBits, r_steps, r_first, r_second, k_x, k_y, k_z, k_upBits, k_steps, k_first, k_second) = some o → WP g A (wX g q z_hasUnit z_hasImage t_length t_bytes x_width x_guard x_stages x_fold x_pipe x_near s_at o_lines n_at o_kinds o_operands o_ties u_width u_guard u_bits u_stages u_places u_near u_quarter u_eighth u_ln u_shifts u_angles u_gains u_undos u_digits r_x r_y r_z r_upBits r_steps r_first r_second v_width v_guard v_bits v_stages v_places v_near v_quarter v_eighth v_ln v_shifts v_angles v_gains v_undos v_digits k_x k_y k_z k_upBits k_steps k_first k_second b_jobs b_over b_clocks b_held b_kinds b_operands b_ties b_states b_gone b_toldIn b_broughtIn b_doneIn c_jobs c_over c_clocks c_held c_kinds c_operands c_ties c_states c_gone c_toldIn c_broughtIn c_doneIn d_jobs d_over d_clocks d_held d_kinds d_operands d_ties d_states d_gone d_toldIn d_broughtIn d_doneIn z_refusals) H → va_S A s.heap H locs → decode cX10_sweep pc = .ok (.lreturn, 1) → W p l e rm_X10_sweep s m args below meth c H locs 0 0 Q (F0 m pc ls [.long v]) := by
    intro H locs pc ls v r_x r_y r_z r_upBits r_steps r_first r_second k_x k_y k_z k_upBits k_steps k_first k_second h hP hS hd
    cases h
    exact ret hP hS hd
  have b45 : ∀ (r_x : Int64) (r_y : Int64) (r_z : Int64) (r_upBits : Int32) (r_steps : Int32) (r_first : Int64) (r_second : Int64) (k_x : Int64) (k_y : Int64) (k_z : Int64) (k_upBits : Int32) (k_steps : Int32) (k_first : Int64) (k_second : Int64) (H : Heap) (locs : List Loc) (ls : Array Slot), f_X10_sweep_b45  z_hasUnit u_width u_guard u_bits u_stages u_near u_quarter u_ln u_shifts u_angles u_undos u_digits v_width v_guard v_bits v_stages v_near v_quarter v_ln v_shifts v_angles v_undos v_digits  r_x r_y r_z r_upBits r_steps r_first r_second k_x k_y k_z k_upBits k_steps k_first k_second = some o → WP g A (wX g q z_hasUnit z_hasImage t_length t_bytes x_width x_guard x_stages x_fold x_pipe x_near s_at o_lines n_at o_kinds o_operands o_ties u_width u_guard u_bits u_stages u_places u_near u_quarter u_eighth u_ln u_shifts u_angles u_gains u_undos u_digits r_x r_y r_z r_upBits r_steps r_first r_second v_width v_guard v_bits v_stages v_places v_near v_quarter v_eighth v_ln v_shifts v_angles v_gains v_undos v_digits k_x k_y k_z k_upBits k_steps k_first k_second b_jobs b_over b_clocks b_held b_kinds b_operands b_ties b_states b_gone b_toldIn b_broughtIn b_doneIn c_jobs c_over c_clocks c_held c_kinds c_operands c_ties c_states c_gone c_toldIn c_broughtIn c_doneIn d_jobs d_over d_clocks d_held d_kinds d_operands d_ties d_states d_gone d_toldIn d_broughtIn d_doneIn z_refusals) H → va_S A s.heap H locs → lv_has ls 19 [] → W p l e rm_X10_sweep s m args below meth c H locs 0 0 Q (F0 m 45 ls []) := by
    intro  r_x r_y r_z r_upBits r_steps r_first r_second k_x k_y k_z k_upBits k_steps k_first k_second H locs ls h hP hS hl
    unfold f_X10_sweep_b45 at h
    refine lv_ldc2 (v := (-9223372036854775808)) hx hb X.2.2.2.1 (X.2.2.2.2.1 _ wd_4_138) dX10_sweep_45 ?_
    exact ret h hP hS dX10_sweep_48
  have b166 : ∀ (k73 : Int32 → Int32 → Int32 → Int32 → Int32 → Int64 → Int64 → Int64 → Int64 → Int64 → Int32 → Int64 → Int64 → Int64 → Int32 → Int32 → Int64 → Int64 → Int64 → Int64 → Int64 → Int32 → Int32 → Int64 → Int64 → Option (Int64 × Int64 × Int64 × Int64 × Int32 × Int32 × Int64 × Int64 × Int64 × Int64 × Int64 × Int32 × Int32 × Int64 × Int64)) (hk73 : ∀ (x1 : Int32) (x2 : Int32) (x3 : Int32) (x4 : Int32) (x5 : Int32) (x6 : Int64) (x8 : Int64) (x10 : Int64) (x12 : Int64) (x14 : Int64) (x16 : Int32) (r_x : Int64) (r_y : Int64) (r_z : Int64) (r_upBits : Int32) (r_steps : Int32) (r_first : Int64) (r_second : Int64) (k_x : Int64) (k_y : Int64) (k_z : Int64) (k_upBits : Int32) (k_steps : Int32) (k_first : Int64) (k_second : Int64) (H : Heap) (locs : List Loc) (ls : Array Slot), k73 x1 x2 x3 x4 x5 x6 x8 x10 x12 x14 x16 r_x r_y r_z r_upBits r_steps r_first r_second k_x k_y k_z k_upBits k_steps k_first k_second = some o → WP g A (wX g q z_hasUnit z_hasImage t_length t_bytes x_width x_guard x_stages x_fold x_pipe x_near s_at o_lines n_at o_kinds o_operands o_ties u_width u_guard u_bits u_stages u_places u_near u_quarter u_eighth u_ln u_shifts u_angles u_gains u_undos u_digits r_x r_y r_z r_upBits r_steps r_first r_second v_width v_guard v_bits v_stages v_places v_near v_quarter v_eighth v_ln v_shifts v_angles v_gains v_undos v_digits k_x k_y k_z k_upBits k_steps k_first k_second b_jobs b_over b_clocks b_held b_kinds b_operands b_ties b_states b_gone b_toldIn b_broughtIn b_doneIn c_jobs c_over c_clocks c_held c_kinds c_operands c_ties c_states c_gone c_toldIn c_broughtIn c_doneIn d_jobs d_over d_clocks d_held d_kinds d_operands d_ties d_states d_gone d_toldIn d_broughtIn d_doneIn z_refusals) H → va_S A s.heap H locs → lv_has ls 19 [(0, .ref (q 0)), (1, .int x1), (2, .int x2), (3, .int x3), (4, .int x4), (5, .int x5), (6, .long x6), (8, .long x8), (10, .long x10), (12, .long x12), (14, .long x14), (16, .int x16)] → W p l e rm_X10_sweep s m args below meth c H locs 0 0 Q (F0 m 73 ls [])) , ∀ (x1 : Int32) (x2 : Int32) (x3 : Int32) (x4 : Int32) (x5 : Int32) (x6 : Int64) (x8 : Int64) (x10 : Int64) (x12 : Int64) (x14 : Int64) (x16 : Int32) (r_x : Int64) (r_y : Int64) (r_z : Int64) (r_upBits : Int32) (r_steps : Int32) (r_first : Int64) (r_second : Int64) (k_x : Int64) (k_y : Int64) (k_z : Int64) (k_upBits : Int32) (k_steps : Int32) (k_first : Int64) (k_second : Int64) (H : Heap) (locs : List Loc) (ls : Array Slot), f_X10_sweep_b166  z_hasUnit u_width u_guard u_bits u_stages u_near u_quarter u_ln u_shifts u_angles u_undos u_digits v_width v_guard v_bits v_stages v_near v_quarter v_ln v_shifts v_angles v_undos v_digits k73 x1 x2 x3 x4 x5 x6 x8 x10 x12 x14 x16 r_x r_y r_z r_upBits r_steps r_first r_second k_x k_y k_z k_upBits k_steps k_first k_second = some o → WP g A (wX g q z_hasUnit z_hasImage t_length t_bytes x_width x_guard x_stages x_fold x_pipe x_near s_at o_lines n_at o_kinds o_operands o_ties u_width u_guard u_bits u_stages u_places u_near u_quarter u_eighth u_ln u_shifts u_angles u_gains u_undos u_digits r_x r_y r_z r_upBits r_steps r_first r_second v_width v_guard v_bits v_stages v_places v_near v_quarter v_eighth v_ln v_shifts v_angles v_gains v_undos v_digits k_x k_y k_z k_upBits k_steps k_first k_second b_jobs b_over b_clocks b_held b_kinds b_operands b_ties b_states b_gone b_toldIn b_broughtIn b_doneIn c_jobs c_over c_clocks c_held c_kinds c_operands c_ties c_states c_gone c_toldIn c_broughtIn c_doneIn d_jobs d_over d_clocks d_held d_kinds d_operands d_ties d_states d_gone d_toldIn d_broughtIn d_doneIn z_refusals) H → va_S A s.heap H locs → lv_has ls 19 [(0, .ref (q 0)), (1, .int x1), (2, .int x2), (3, .int x3), (4, .int x4), (5, .int x5), (6, .long x6), (8, .long x8), (10, .long x10), (12, .long x12), (14, .long x14), (16, .int x16)] → W p l e rm_X10_sweep s m args below meth c H locs 0 0 Q (F0 m 166 ls []) := by
    intro k73 hk73 x1 x2 x3 x4 x5 x6 x8 x10 x12 x14 x16 r_x r_y r_z r_upBits r_steps r_first r_second k_x k_y k_z k_upBits k_steps k_first k_second H locs ls h hP hS hl
    unfold f_X10_sweep_b166 at h
    obtain ⟨v8, ev8⟩ : ∃ z : Int32, z = (x16 + 1) := ⟨_, rfl⟩
    have h := lt_at ev8 h
    refine lv_iinc (v := v8) (lv' := [(16, .int v8), (0, .ref (q 0)), (1, .int x1), (2, .int x2), (3, .int x3), (4, .int x4), (5, .int x5), (6, .long x6), (8, .long x8), (10, .long x10), (12, .long x12), (14, .long x14)]) hx hb dX10_sweep_166 hl (k := 11) rfl (by rw [ev8]; rfl) (by decide) rfl (fun ls hl => ?_)
    refine lv_goto (tgt := 73) hx hb dX10_sweep_169 rfl ?_
    exact hk73 x1 x2 x3 x4 x5 x6 x8 x10 x12 x14 v8 r_x r_y r_z r_upBits r_steps r_first r_second k_x k_y k_z k_upBits k_steps k_first k_second _ _ _ h hP hS (lv_sub hl [1, 2, 3, 4, 5, 6, 7, 8, 9, 10, 11, 0] rfl)
  have l73 : ∀ (n : Nat), ∀ (x1 : Int32) (x2 : Int32) (x3 : Int32) (x4 : Int32) (x5 : Int32) (x6 : Int64) (x8 : Int64) (x10 : Int64) (x12 : Int64) (x14 : Int64) (x16 : Int32) (r_x : Int64) (r_y : Int64) (r_z : Int64) (r_upBits : Int32) (r_steps : Int32) (r_first : Int64) (r_second : Int64) (k_x : Int64) (k_y : Int64) (k_z : Int64) (k_upBits : Int32) (k_steps : Int32) (k_first : Int64) (k_second : Int64) (H : Heap) (locs : List Loc) (ls : Array Slot), f_X10_sweep_l73  z_hasUnit u_width u_guard u_bits u_stages u_near u_quarter u_ln u_shifts u_angles u_undos u_digits v_width v_guard v_bits v_stages v_near v_quarter v_ln v_shifts v_angles v_undos v_digits  n x1 x2 x3 x4 x5 x6 x8 x10 x12 x14 x16 r_x r_y r_z r_upBits r_steps r_first r_second k_x k_y k_z k_upBits k_steps k_first k_second = some o → WP g A (wX g q z_hasUnit z_hasImage t_length t_bytes x_width x_guard x_stages x_fold x_pipe x_near s_at o_lines n_at o_kinds o_operands o_ties u_width u_guard u_bits u_stages u_places u_near u_quarter u_eighth u_ln u_shifts u_angles u_gains u_undos u_digits r_x r_y r_z r_upBits r_steps r_first r_second v_width v_guard v_bits v_stages v_places v_near v_quarter v_eighth v_ln v_shifts v_angles v_gains v_undos v_digits k_x k_y k_z k_upBits k_steps k_first k_second b_jobs b_over b_clocks b_held b_kinds b_operands b_ties b_states b_gone b_toldIn b_broughtIn b_doneIn c_jobs c_over c_clocks c_held c_kinds c_operands c_ties c_states c_gone c_toldIn c_broughtIn c_doneIn d_jobs d_over d_clocks d_held d_kinds d_operands d_ties d_states d_gone d_toldIn d_broughtIn d_doneIn z_refusals) H → va_S A s.heap H locs → lv_has ls 19 [(0, .ref (q 0)), (1, .int x1), (2, .int x2), (3, .int x3), (4, .int x4), (5, .int x5), (6, .long x6), (8, .long x8), (10, .long x10), (12, .long x12), (14, .long x14), (16, .int x16)] → W p l e rm_X10_sweep s m args below meth c H locs 0 0 Q (F0 m 73 ls []) := by
    intro  n
    induction n with
    | zero =>
      intro x1 x2 x3 x4 x5 x6 x8 x10 x12 x14 x16 r_x r_y r_z r_upBits r_steps r_first r_second k_x k_y k_z k_upBits k_steps k_first k_second H locs ls h
      exact nz_of h
    | succ n ih =>
      intro x1 x2 x3 x4 x5 x6 x8 x10 x12 x14 x16 r_x r_y r_z r_upBits r_steps r_first r_second k_x k_y k_z k_upBits k_steps k_first k_second H locs ls h hP hS hl
      rw [f_X10_sweep_l73] at h
      refine lv_iload hx hb dX10_sweep_73 (lv_at hl 11 rfl) ?_
      refine lv_iload hx hb dX10_sweep_75 (lv_at hl 4 rfl) ?_
      refine lv_icmp_ge (tgt := 172) hx hb dX10_sweep_77 rfl (fun c77 => ?_) (fun c77 => ?_)
      · have h := br_p c77 h
        refine lv_iload hx hb dX10_sweep_172 (lv_at hl 5 rfl) ?_
        by_cases c174_0 : x5 = 0
        · have h := br_p c174_0 h
          refine lv_tableIn (off := 26) (tgt := 200) hx hb dX10_sweep_174 (by rw [c174_0]; decide) (by rw [c174_0]; decide) (by rw [c174_0]; rfl) rfl ?_
          refine lv_lload hx hb dX10_sweep_200 (lv_at hl 6 rfl) ?_
          refine lv_lconst (v := 0) hx hb dX10_sweep_202 rfl ?_
          refine jx1 h (P := fun (v2 : Int64) => ∀ ls : Array Slot, lv_has ls 19 [] → W p l e rm_X10_sweep s m args below meth c H locs 0 0 Q (F0 m 215 ls [.long v2])) ?_ ?_
          · intro v2 h ls hl
            exact ret h hP hS dX10_sweep_215
          · intro J h
            refine rl_ge (tgt := 213) hx hb dX10_sweep_203 dX10_sweep_204 rfl (fun c203 => ?_) (fun c203 => ?_)
            · refine lv_lload hx hb dX10_sweep_213 (lv_at hl 6 rfl) ?_
              exact J _ (lt_ip c203 h) ls (lv_sub hl [] rfl)
            · refine lv_ldc2 (v := (-9223372036854775808)) hx hb X.2.2.2.1 (X.2.2.2.2.1 _ wd_4_138) dX10_sweep_207 ?_
              refine lv_goto (tgt := 215) hx hb dX10_sweep_210 rfl ?_
              exact J _ (lt_in c203 h) ls (lv_sub hl [] rfl)
        have h := br_n c174_0 h
        by_cases c174_1 : x5 = 1
        · have h := br_p c174_1 h
          refine lv_tableIn (off := 42) (tgt := 216) hx hb dX10_sweep_174 (by rw [c174_1]; decide) (by rw [c174_1]; decide) (by rw [c174_1]; rfl) rfl ?_
          refine lv_lload hx hb dX10_sweep_216 (lv_at hl 7 rfl) ?_
          exact ret h hP hS dX10_sweep_218
        have h := br_n c174_1 h
        by_cases c174_2 : x5 = 2
        · have h := br_p c174_2 h
          refine lv_tableIn (off := 45) (tgt := 219) hx hb dX10_sweep_174 (by rw [c174_2]; decide) (by rw [c174_2]; decide) (by rw [c174_2]; rfl) rfl ?_
          refine lv_lload hx hb dX10_sweep_219 (lv_at hl 8 rfl) ?_
          exact ret h hP hS dX10_sweep_221
        have h := br_n c174_2 h
        refine lv_tableOut (tgt := 222) hx hb dX10_sweep_174 (by have := lv_neT (a := 0) c174_0 rfl; have := lv_neT (a := 1) c174_1 rfl; have := lv_neT (a := 2) c174_2 rfl; omega) rfl ?_
        refine lv_lload hx hb dX10_sweep_222 (lv_at hl 10 rfl) ?_
        exact ret h hP hS dX10_sweep_224
      · have h := br_n c77 h
        refine lv_iload_n hx hb dX10_sweep_80 rfl (lv_at hl 2 rfl) ?_
        refine lv_i2l hx hb dX10_sweep_81 rfl ?_
        refine lv_iload hx hb dX10_sweep_82 (lv_at hl 11 rfl) ?_
        refine lv_i2l hx hb dX10_sweep_84 rfl ?_
        refine lv_iload_n hx hb dX10_sweep_85 rfl (lv_at hl 3 rfl) ?_
        refine lv_i2l hx hb dX10_sweep_86 rfl ?_
        refine lv_lmul hx hb dX10_sweep_87 ?_
        refine lv_ladd hx hb dX10_sweep_88 ?_
        refine lv_topl (fun v3 ev3 => ?_)
        have h := lt_at ev3 h
        refine lv_lstore (lv' := [(17, .long v3), (0, .ref (q 0)), (1, .int x1), (2, .int x2), (3, .int x3), (4, .int x4), (5, .int x5), (6, .long x6), (8, .long x8), (10, .long x10), (12, .long x12), (14, .long x14), (16, .int x16)]) hx hb dX10_sweep_89 hl (by decide) rfl (fun ls hl => ?_)
        refine lv_aload_n hx hb dX10_sweep_91 rfl (lv_at hl 1 rfl) ?_
        refine lv_iload_n hx hb dX10_sweep_92 rfl (lv_at hl 2 rfl) ?_
        refine lv_lload hx hb dX10_sweep_93 (lv_at hl 0 rfl) ?_
        refine lv_lconst (v := 0) hx hb dX10_sweep_95 rfl ?_
        refine lv_lconst (v := 0) hx hb dX10_sweep_96 rfl ?_
        obtain ⟨o4, hco4, h⟩ := bd_of h
        refine kV (rest := []) X dX10_sweep_97 wd_4_178 mw_X10_solveBoth wd_4_180 wp_6_1 hP (k0 := 0) rfl rfl rfl hS (fun _ z => z) (c_X10_solveBoth hco4) rfl hl.1 rfl (Nat.le_of_ble_eq_true rfl) rfl rfl ⟨Nat.le_of_ble_eq_true rfl, Nat.le_of_ble_eq_true rfl⟩ (fun H locs hP _ _ hS => ?_)
        refine W.eq (g2 := F0 m 100 ls [.int (bI o4.1)]) rfl ?_
        refine rb_ne (tgt := 112) hx hb dX10_sweep_100 rfl (fun c100 => ?_) (fun c100 => ?_)
        · have h := br_p c100 h
          refine lv_lload hx hb dX10_sweep_112 (lv_at hl 9 rfl) ?_
          refine lv_aload_n hx hb dX10_sweep_114 rfl (lv_at hl 1 rfl) ?_
          refine gf_X10_46_X_0 X hP dX10_sweep_115 ?_
          refine gf_X10_341_X_16 X hP dX10_sweep_118 ?_
          refine lv_lload hx hb dX10_sweep_121 (lv_at hl 10 rfl) ?_
          refine jx1 h (P := fun (v5 : Int64) => ∀ ls : Array Slot, lv_has ls 19 [(0, .ref (q 0)), (1, .int x1), (2, .int x2), (3, .int x3), (4, .int x4), (5, .int x5), (6, .long x6), (8, .long x8), (14, .long x14), (16, .int x16), (17, .long v3)] → W p l e rm_X10_sweep s m args below meth c H locs 0 0 Q (F0 m 132 ls [.long v5, .long x10])) ?_ ?_
          · intro v5 h ls hl
            refine lv_ladd hx hb dX10_sweep_132 ?_
            refine lv_topl (fun v6 ev6 => ?_)
            have h := lt_at ev6 h
            refine lv_lstore (lv' := [(10, .long v6), (0, .ref (q 0)), (1, .int x1), (2, .int x2), (3, .int x3), (4, .int x4), (5, .int x5), (6, .long x6), (8, .long x8), (14, .long x14), (16, .int x16), (17, .long v3)]) hx hb dX10_sweep_133 hl (by decide) rfl (fun ls hl => ?_)
            refine lv_aload_n hx hb dX10_sweep_135 rfl (lv_at hl 1 rfl) ?_
            refine gf_X10_46_X_0 X hP dX10_sweep_136 ?_
            refine gf_X10_341_X_16 X hP dX10_sweep_139 ?_
            refine lv_lstore (lv' := [(12, .long o4.2.2.2.2.2.2.1), (10, .long v6), (0, .ref (q 0)), (1, .int x1), (2, .int x2), (3, .int x3), (4, .int x4), (5, .int x5), (6, .long x6), (8, .long x8), (14, .long x14), (16, .int x16), (17, .long v3)]) hx hb dX10_sweep_142 hl (by decide) rfl (fun ls hl => ?_)
            refine lv_aload_n hx hb dX10_sweep_144 rfl (lv_at hl 2 rfl) ?_
            refine lv_iconst (v := 0) hx hb dX10_sweep_145 rfl ?_
            obtain ⟨o7, hco7, h⟩ := bd_of h
            refine kV (rest := []) X dX10_sweep_146 wd_4_187 mw_X10_distance wd_4_189 wp_6_2 hP (k0 := 0) rfl rfl rfl hS (fun _ z => z) (c_X10_distance hco7) rfl hl.1 rfl (Nat.le_of_ble_eq_true rfl) rfl rfl ⟨Nat.le_of_ble_eq_true rfl, Nat.le_of_ble_eq_true rfl⟩ (fun H locs hP _ _ hS => ?_)
            refine W.eq (g2 := F0 m 149 ls [.long o7]) rfl ?_
            refine lv_lload hx hb dX10_sweep_149 (lv_at hl 8 rfl) ?_
            refine rl_le (tgt := 166) hx hb dX10_sweep_151 dX10_sweep_152 rfl (fun c151 => ?_) (fun c151 => ?_)
            · have h := br_p c151 h
              exact b166 (f_X10_sweep_l73  z_hasUnit u_width u_guard u_bits u_stages u_near u_quarter u_ln u_shifts u_angles u_undos u_digits v_width v_guard v_bits v_stages v_near v_quarter v_ln v_shifts v_angles v_undos v_digits  n) ih  x1 x2 x3 x4 x5 x6 x8 v6 o4.2.2.2.2.2.2.1 x14 x16 o4.2.1 o4.2.2.1 o4.2.2.2.1 o4.2.2.2.2.1 o4.2.2.2.2.2.1 o4.2.2.2.2.2.2.1 o4.2.2.2.2.2.2.2.1 o4.2.2.2.2.2.2.2.2.1 o4.2.2.2.2.2.2.2.2.2.1 o4.2.2.2.2.2.2.2.2.2.2.1 o4.2.2.2.2.2.2.2.2.2.2.2.1 o4.2.2.2.2.2.2.2.2.2.2.2.2.1 o4.2.2.2.2.2.2.2.2.2.2.2.2.2.1 o4.2.2.2.2.2.2.2.2.2.2.2.2.2.2 _ _ _ h hP hS (lv_sub hl [2, 3, 4, 5, 6, 7, 8, 9, 1, 0, 10, 11] rfl)
            · have h := br_n c151 h
              refine lv_aload_n hx hb dX10_sweep_155 rfl (lv_at hl 2 rfl) ?_
              refine lv_iconst (v := 0) hx hb dX10_sweep_156 rfl ?_
              obtain ⟨o9, hco9, h⟩ := bd_of h
              refine kV (rest := []) X dX10_sweep_157 wd_4_187 mw_X10_distance wd_4_189 wp_6_2 hP (k0 := 0) rfl rfl rfl hS (fun _ z => z) (c_X10_distance hco9) rfl hl.1 rfl (Nat.le_of_ble_eq_true rfl) rfl rfl ⟨Nat.le_of_ble_eq_true rfl, Nat.le_of_ble_eq_true rfl⟩ (fun H locs hP _ _ hS => ?_)
              refine W.eq (g2 := F0 m 160 ls [.long o9]) rfl ?_
              refine lv_lstore (lv' := [(6, .long o9), (12, .long o4.2.2.2.2.2.2.1), (10, .long v6), (0, .ref (q 0)), (1, .int x1), (2, .int x2), (3, .int x3), (4, .int x4), (5, .int x5), (8, .long x8), (14, .long x14), (16, .int x16), (17, .long v3)]) hx hb dX10_sweep_160 hl (by decide) rfl (fun ls hl => ?_)
              refine lv_lload hx hb dX10_sweep_162 (lv_at hl 12 rfl) ?_
              refine lv_lstore (lv' := [(8, .long v3), (6, .long o9), (12, .long o4.2.2.2.2.2.2.1), (10, .long v6), (0, .ref (q 0)), (1, .int x1), (2, .int x2), (3, .int x3), (4, .int x4), (5, .int x5), (14, .long x14), (16, .int x16), (17, .long v3)]) hx hb dX10_sweep_164 hl (by decide) rfl (fun ls hl => ?_)
              exact b166 (f_X10_sweep_l73  z_hasUnit u_width u_guard u_bits u_stages u_near u_quarter u_ln u_shifts u_angles u_undos u_digits v_width v_guard v_bits v_stages v_near v_quarter v_ln v_shifts v_angles v_undos v_digits  n) ih  x1 x2 x3 x4 x5 o9 v3 v6 o4.2.2.2.2.2.2.1 x14 x16 o4.2.1 o4.2.2.1 o4.2.2.2.1 o4.2.2.2.2.1 o4.2.2.2.2.2.1 o4.2.2.2.2.2.2.1 o4.2.2.2.2.2.2.2.1 o4.2.2.2.2.2.2.2.2.1 o4.2.2.2.2.2.2.2.2.2.1 o4.2.2.2.2.2.2.2.2.2.2.1 o4.2.2.2.2.2.2.2.2.2.2.2.1 o4.2.2.2.2.2.2.2.2.2.2.2.2.1 o4.2.2.2.2.2.2.2.2.2.2.2.2.2.1 o4.2.2.2.2.2.2.2.2.2.2.2.2.2.2 _ _ _ h hP hS (lv_sub hl [4, 5, 6, 7, 8, 9, 1, 0, 3, 2, 10, 11] rfl)
          · intro J h
            refine rl_ge (tgt := 131) hx hb dX10_sweep_123 dX10_sweep_124 rfl (fun c123 => ?_) (fun c123 => ?_)
            · refine lv_lconst (v := 0) hx hb dX10_sweep_131 rfl ?_
              exact J _ (lt_ip c123 h) ls (lv_sub hl [1, 2, 3, 4, 5, 6, 7, 8, 11, 12, 0] rfl)
            · refine lv_lconst (v := 1) hx hb dX10_sweep_127 rfl ?_
              refine lv_goto (tgt := 132) hx hb dX10_sweep_128 rfl ?_
              exact J _ (lt_in c123 h) ls (lv_sub hl [1, 2, 3, 4, 5, 6, 7, 8, 11, 12, 0] rfl)
        · have h := br_n c100 h
          refine lv_lload hx hb dX10_sweep_103 (lv_at hl 11 rfl) ?_
          refine lv_lconst (v := 1) hx hb dX10_sweep_105 rfl ?_
          refine lv_ladd hx hb dX10_sweep_106 ?_
          refine lv_topl (fun v10 ev10 => ?_)
          have h := lt_at ev10 h
          refine lv_lstore (lv' := [(14, .long v10), (17, .long v3), (0, .ref (q 0)), (1, .int x1), (2, .int x2), (3, .int x3), (4, .int x4), (5, .int x5), (6, .long x6), (8, .long x8), (10, .long x10), (12, .long x12), (16, .int x16)]) hx hb dX10_sweep_107 hl (by decide) rfl (fun ls hl => ?_)
          refine lv_goto (tgt := 166) hx hb dX10_sweep_109 rfl ?_
          exact b166 (f_X10_sweep_l73  z_hasUnit u_width u_guard u_bits u_stages u_near u_quarter u_ln u_shifts u_angles u_undos u_digits v_width v_guard v_bits v_stages v_near v_quarter v_ln v_shifts v_angles v_undos v_digits  n) ih  x1 x2 x3 x4 x5 x6 x8 x10 x12 v10 x16 o4.2.1 o4.2.2.1 o4.2.2.2.1 o4.2.2.2.2.1 o4.2.2.2.2.2.1 o4.2.2.2.2.2.2.1 o4.2.2.2.2.2.2.2.1 o4.2.2.2.2.2.2.2.2.1 o4.2.2.2.2.2.2.2.2.2.1 o4.2.2.2.2.2.2.2.2.2.2.1 o4.2.2.2.2.2.2.2.2.2.2.2.1 o4.2.2.2.2.2.2.2.2.2.2.2.2.1 o4.2.2.2.2.2.2.2.2.2.2.2.2.2.1 o4.2.2.2.2.2.2.2.2.2.2.2.2.2.2 _ _ _ h hP hS (lv_sub hl [2, 3, 4, 5, 6, 7, 8, 9, 10, 11, 0, 12] rfl)
  unfold f_X10_sweep at h
  refine lv_aload_n hx hb dX10_sweep_0 rfl (lv_at hl 0 rfl) ?_
  refine lv_iload_n hx hb dX10_sweep_1 rfl (lv_at hl 1 rfl) ?_
  obtain ⟨o1, hco1, h⟩ := bd_of h
  refine kV (rest := []) X dX10_sweep_2 wd_3_141 mw_X10_isKind wd_3_143 wp_3_8 hP (k0 := 0) rfl rfl rfl hS (fun _ z => z) (c_X10_isKind hco1) rfl hl.1 rfl (Nat.le_of_ble_eq_true rfl) rfl rfl ⟨Nat.le_of_ble_eq_true rfl, Nat.le_of_ble_eq_true rfl⟩ (fun H locs hP _ _ hS => ?_)
  refine W.eq (g2 := F0 m 5 ls [.int (bI o1)]) rfl ?_
  refine rb_eq (tgt := 45) hx hb dX10_sweep_5 rfl (fun c5 => ?_) (fun c5 => ?_)
  · have h := br_n c5 h
    exact b45   r_x r_y r_z r_upBits r_steps r_first r_second k_x k_y k_z k_upBits k_steps k_first k_second _ _ _ h hP hS (lv_sub hl [] rfl)
  · have h := br_p c5 h
    refine sgO X hS (sfX X).1 wd_3_145 dX10_sweep_8 ?_
    refine lv_iload_n hx hb dX10_sweep_11 rfl (lv_at hl 1 rfl) ?_
    obtain ⟨hi12, h⟩ := gv_of h
    refine stq X hS (sfX X).2.2.2.2.2.2.2.1 hi12 dX10_sweep_12 ?_
    refine W.eq (g2 := F0 m 13 ls [.ref (g.2 (20 + (p0).toNatClampNeg))]) rfl ?_
    refine ofN X hS ((sfX X).2.2.2.2.2.2.2.2.2.2.2.2.1 _ (vin_lt hi12)).2.2.2.1 wd_7_235 dX10_sweep_13 ?_
    refine lv_iconst (v := 1) hx hb dX10_sweep_16 rfl ?_
    refine lv_icmp_ne (tgt := 45) hx hb dX10_sweep_17 rfl (fun c17 => ?_) (fun c17 => ?_)
    · have h := br_n c17 h
      exact b45   r_x r_y r_z r_upBits r_steps r_first r_second k_x k_y k_z k_upBits k_steps k_first k_second _ _ _ h hP hS (lv_sub hl [] rfl)
    · have h := br_p c17 h
      refine lv_iload hx hb dX10_sweep_20 (lv_at hl 4 rfl) ?_
      refine lv_iconst (v := 1) hx hb dX10_sweep_22 rfl ?_
      refine lv_icmp_lt (tgt := 45) hx hb dX10_sweep_23 rfl (fun c23 => ?_) (fun c23 => ?_)
      · have h := br_p c23 h
        exact b45   r_x r_y r_z r_upBits r_steps r_first r_second k_x k_y k_z k_upBits k_steps k_first k_second _ _ _ h hP hS (lv_sub hl [] rfl)
      · have h := br_n c23 h
        refine lv_iload hx hb dX10_sweep_26 (lv_at hl 4 rfl) ?_
        refine lv_sipush (v := 200) hx hb dX10_sweep_28 rfl ?_
        refine lv_icmp_gt (tgt := 45) hx hb dX10_sweep_31 rfl (fun c31 => ?_) (fun c31 => ?_)
        · have h := br_p c31 h
          exact b45   r_x r_y r_z r_upBits r_steps r_first r_second k_x k_y k_z k_upBits k_steps k_first k_second _ _ _ h hP hS (lv_sub hl [] rfl)
        · have h := br_n c31 h
          refine lv_iload hx hb dX10_sweep_34 (lv_at hl 5 rfl) ?_
          refine lv_if_lt (tgt := 45) hx hb dX10_sweep_36 rfl (fun c36 => ?_) (fun c36 => ?_)
          · have h := br_p c36 h
            exact b45   r_x r_y r_z r_upBits r_steps r_first r_second k_x k_y k_z k_upBits k_steps k_first k_second _ _ _ h hP hS (lv_sub hl [] rfl)
          · have h := br_n c36 h
            refine lv_iload hx hb dX10_sweep_39 (lv_at hl 5 rfl) ?_
            refine lv_iconst (v := 3) hx hb dX10_sweep_41 rfl ?_
            refine lv_icmp_le (tgt := 49) hx hb dX10_sweep_42 rfl (fun c42 => ?_) (fun c42 => ?_)
            · have h := br_p c42 h
              refine lv_ldc2 (v := (-1)) hx hb X.2.2.2.1 (X.2.2.2.2.1 _ wd_4_200) dX10_sweep_49 ?_
              refine lv_lstore (lv' := [(6, .long (-1 : Int64)), (0, .ref (q 0)), (1, .int p0), (2, .int p1), (3, .int p2), (4, .int p3), (5, .int p4)]) hx hb dX10_sweep_52 hl (by decide) rfl (fun ls hl => ?_)
              refine lv_ldc2 (v := (-9223372036854775808)) hx hb X.2.2.2.1 (X.2.2.2.2.1 _ wd_4_138) dX10_sweep_54 ?_
              refine lv_lstore (lv' := [(8, .long (-9223372036854775808 : Int64)), (6, .long (-1 : Int64)), (0, .ref (q 0)), (1, .int p0), (2, .int p1), (3, .int p2), (4, .int p3), (5, .int p4)]) hx hb dX10_sweep_57 hl (by decide) rfl (fun ls hl => ?_)
              refine lv_lconst (v := 0) hx hb dX10_sweep_59 rfl ?_
              refine lv_lstore (lv' := [(10, .long (0 : Int64)), (8, .long (-9223372036854775808 : Int64)), (6, .long (-1 : Int64)), (0, .ref (q 0)), (1, .int p0), (2, .int p1), (3, .int p2), (4, .int p3), (5, .int p4)]) hx hb dX10_sweep_60 hl (by decide) rfl (fun ls hl => ?_)
              refine lv_ldc2 (v := (-9223372036854775808)) hx hb X.2.2.2.1 (X.2.2.2.2.1 _ wd_4_138) dX10_sweep_62 ?_
              refine lv_lstore (lv' := [(12, .long (-9223372036854775808 : Int64)), (10, .long (0 : Int64)), (8, .long (-9223372036854775808 : Int64)), (6, .long (-1 : Int64)), (0, .ref (q 0)), (1, .int p0), (2, .int p1), (3, .int p2), (4, .int p3), (5, .int p4)]) hx hb dX10_sweep_65 hl (by decide) rfl (fun ls hl => ?_)
              refine lv_lconst (v := 0) hx hb dX10_sweep_67 rfl ?_
              refine lv_lstore (lv' := [(14, .long (0 : Int64)), (12, .long (-9223372036854775808 : Int64)), (10, .long (0 : Int64)), (8, .long (-9223372036854775808 : Int64)), (6, .long (-1 : Int64)), (0, .ref (q 0)), (1, .int p0), (2, .int p1), (3, .int p2), (4, .int p3), (5, .int p4)]) hx hb dX10_sweep_68 hl (by decide) rfl (fun ls hl => ?_)
              refine lv_iconst (v := 0) hx hb dX10_sweep_70 rfl ?_
              refine lv_istore (lv' := [(16, .int 0), (14, .long (0 : Int64)), (12, .long (-9223372036854775808 : Int64)), (10, .long (0 : Int64)), (8, .long (-9223372036854775808 : Int64)), (6, .long (-1 : Int64)), (0, .ref (q 0)), (1, .int p0), (2, .int p1), (3, .int p2), (4, .int p3), (5, .int p4)]) hx hb dX10_sweep_71 hl (by decide) rfl (fun ls hl => ?_)
              exact l73  FU p0 p1 p2 p3 p4 (-1 : Int64) (-9223372036854775808 : Int64) (0 : Int64) (-9223372036854775808 : Int64) (0 : Int64) (0 : Int32) r_x r_y r_z r_upBits r_steps r_first r_second k_x k_y k_z k_upBits k_steps k_first k_second _ _ _ h hP hS (lv_sub hl [6, 7, 8, 9, 10, 11, 5, 4, 3, 2, 1, 0] rfl)
            · have h := br_n c42 h
              exact b45   r_x r_y r_z r_upBits r_steps r_first r_second k_x k_y k_z k_upBits k_steps k_first k_second _ _ _ h hP hS (lv_sub hl [] rfl)
abbrev rm_X10_image : Room := { frames := 2, cells := 0, slots := 0, locals := 81 }
set_option maxRecDepth 100000 in
set_option maxHeartbeats 4000000 in
theorem c_X10_image {g : gT} {l : Launch} {A : Nat → Prop} {q : Nat → Nat} {z_hasUnit : Bool} {z_hasImage : Bool} {t_length : Int32} {t_bytes : Nat → Int32} {x_width : Int32} {x_guard : Int32} {x_stages : Int32} {x_fold : Int32} {x_pipe : Bool} {x_near : Bool} {s_at : Int32} {o_lines : Int32} {n_at : Int32} {o_kinds : Nat → Int32} {o_operands : Nat → Int32} {o_ties : Nat → Int32} {u_width : Int32} {u_guard : Int32} {u_bits : Int32} {u_stages : Int32} {u_places : Int32} {u_near : Bool} {u_quarter : Int64} {u_eighth : Int64} {u_ln : Int64} {u_shifts : Nat → Int32} {u_angles : Nat → Int64} {u_gains : Nat → Int64} {u_undos : Nat → Int64} {u_digits : Nat → Int32} {r_x : Int64} {r_y : Int64} {r_z : Int64} {r_upBits : Int32} {r_steps : Int32} {r_first : Int64} {r_second : Int64} {v_width : Int32} {v_guard : Int32} {v_bits : Int32} {v_stages : Int32} {v_places : Int32} {v_near : Bool} {v_quarter : Int64} {v_eighth : Int64} {v_ln : Int64} {v_shifts : Nat → Int32} {v_angles : Nat → Int64} {v_gains : Nat → Int64} {v_undos : Nat → Int64} {v_digits : Nat → Int32} {k_x : Int64} {k_y : Int64} {k_z : Int64} {k_upBits : Int32} {k_steps : Int32} {k_first : Int64} {k_second : Int64} {b_jobs : Int32} {b_over : Int32} {b_clocks : Int32} {b_held : Bool} {b_kinds : Nat → Int32} {b_operands : Nat → Int32} {b_ties : Nat → Int32} {b_states : Nat → Int32} {b_gone : Nat → Int32} {b_toldIn : Nat → Int32} {b_broughtIn : Nat → Int32} {b_doneIn : Nat → Int32} {c_jobs : Int32} {c_over : Int32} {c_clocks : Int32} {c_held : Bool} {c_kinds : Nat → Int32} {c_operands : Nat → Int32} {c_ties : Nat → Int32} {c_states : Nat → Int32} {c_gone : Nat → Int32} {c_toldIn : Nat → Int32} {c_broughtIn : Nat → Int32} {c_doneIn : Nat → Int32} {d_jobs : Int32} {d_over : Int32} {d_clocks : Int32} {d_held : Bool} {d_kinds : Nat → Int32} {d_operands : Nat → Int32} {d_ties : Nat → Int32} {d_states : Nat → Int32} {d_gone : Nat → Int32} {d_toldIn : Nat → Int32} {d_broughtIn : Nat → Int32} {d_doneIn : Nat → Int32} {z_refusals : Nat → Int32}  {o : Int32 × Bool × Int32 × Int32 × Int32 × Bool × (Nat → Int32) × (Nat → Int32) × (Nat → Int32) × (Nat → Int32) × (Nat → Int32) × (Nat → Int32) × (Nat → Int32) × (Nat → Int32)} (h : f_X10_image  z_hasUnit z_hasImage b_jobs b_over b_clocks b_held b_kinds b_operands b_ties b_states b_gone b_toldIn b_broughtIn b_doneIn c_jobs c_over c_clocks c_held c_kinds c_operands c_ties c_states c_gone c_toldIn c_broughtIn c_doneIn = some o) : Std g l yX10_image (.code yX10_image cX10_image 1 (some .int) :: gw) rm_X10_image A [.ref (q 0)] (wX g q z_hasUnit z_hasImage t_length t_bytes x_width x_guard x_stages x_fold x_pipe x_near s_at o_lines n_at o_kinds o_operands o_ties u_width u_guard u_bits u_stages u_places u_near u_quarter u_eighth u_ln u_shifts u_angles u_gains u_undos u_digits r_x r_y r_z r_upBits r_steps r_first r_second v_width v_guard v_bits v_stages v_places v_near v_quarter v_eighth v_ln v_shifts v_angles v_gains v_undos v_digits k_x k_y k_z k_upBits k_steps k_first k_second b_jobs b_over b_clocks b_held b_kinds b_operands b_ties b_states b_gone b_toldIn b_broughtIn b_doneIn c_jobs c_over c_clocks c_held c_kinds c_operands c_ties c_states c_gone c_toldIn c_broughtIn c_doneIn d_jobs d_over d_clocks d_held d_kinds d_operands d_ties d_states d_gone d_toldIn d_broughtIn d_doneIn z_refusals) (wX g q z_hasUnit o.2.1 t_length t_bytes x_width x_guard x_stages x_fold x_pipe x_near s_at o_lines n_at o_kinds o_operands o_ties u_width u_guard u_bits u_stages u_places u_near u_quarter u_eighth u_ln u_shifts u_angles u_gains u_undos u_digits r_x r_y r_z r_upBits r_steps r_first r_second v_width v_guard v_bits v_stages v_places v_near v_quarter v_eighth v_ln v_shifts v_angles v_gains v_undos v_digits k_x k_y k_z k_upBits k_steps k_first k_second b_jobs b_over b_clocks b_held b_kinds b_operands b_ties b_states b_gone b_toldIn b_broughtIn b_doneIn o.2.2.1 o.2.2.2.1 o.2.2.2.2.1 o.2.2.2.2.2.1 o.2.2.2.2.2.2.1 o.2.2.2.2.2.2.2.1 o.2.2.2.2.2.2.2.2.1 o.2.2.2.2.2.2.2.2.2.1 o.2.2.2.2.2.2.2.2.2.2.1 o.2.2.2.2.2.2.2.2.2.2.2.1 o.2.2.2.2.2.2.2.2.2.2.2.2.1 o.2.2.2.2.2.2.2.2.2.2.2.2.2 d_jobs d_over d_clocks d_held d_kinds d_operands d_ties d_states d_gone d_toldIn d_broughtIn d_doneIn z_refusals) (some (.int o.1)) := by
  refine std_i (own := RX10) (by decide +kernel) rfl (Nat.le_of_ble_eq_true rfl) ?_
  intro p e s m args below meth c Q X ret H locs hP hS ls hl
  have hx := X.1
  have hb := X.2.1
  have hl : lv_has ls 1 [(0, .ref (q 0))] := hl
  have ret : ∀ {H : Heap} {locs : List Loc} {pc : Nat} {ls : Array Slot} {v : Int32} {z_hasImage : Bool} {c_jobs : Int32} {c_over : Int32} {c_clocks : Int32} {c_held : Bool} {c_kinds : Nat → Int32} {c_operands : Nat → Int32} {c_ties : Nat → Int32} {c_states : Nat → Int32} {c_gone : Nat → Int32} {c_toldIn : Nat → Int32} {c_broughtIn : Nat → Int32} {c_doneIn : Nat → Int32}, some (v, z_hasImage, c_jobs, c_over, c_clocks, c_held, c_kinds, c_operands, c_ties, c_states, c_gone, c_toldIn, c_broughtIn, c_doneIn) = some o → WP g A (wX g q z_hasUnit z_hasImage t_length t_bytes x_width x_guard x_stages x_fold x_pipe x_near s_at o_lines n_at o_kinds o_operands o_ties u_width u_guard u_bits u_stages u_places u_near u_quarter u_eighth u_ln u_shifts u_angles u_gains u_undos u_digits r_x r_y r_z r_upBits r_steps r_first r_second v_width v_guard v_bits v_stages v_places v_near v_quarter v_eighth v_ln v_shifts v_angles v_gains v_undos v_digits k_x k_y k_z k_upBits k_steps k_first k_second b_jobs b_over b_clocks b_held b_kinds b_operands b_ties b_states b_gone b_toldIn b_broughtIn b_doneIn c_jobs c_over c_clocks c_held c_kinds c_operands c_ties c_states c_gone c_toldIn c_broughtIn c_doneIn d_jobs d_over d_clocks d_held d_kinds d_operands d_ties d_states d_gone d_toldIn d_broughtIn d_doneIn z_refusals) H → va_S A s.heap H locs → decode cX10_image pc = .ok (.ireturn, 1) → W p l e rm_X10_image s m args below meth c H locs 0 0 Q (F0 m pc ls [.int v]) := by
    intro H locs pc ls v z_hasImage c_jobs c_over c_clocks c_held c_kinds c_operands c_ties c_states c_gone c_toldIn c_broughtIn c_doneIn h hP hS hd
    cases h
    exact ret hP hS hd
  unfold f_X10_image at h
  refine lv_aload_n hx hb dX10_image_0 rfl (lv_at hl 0 rfl) ?_
  refine gf_X10_110_X_0 X hP dX10_image_1 ?_
  refine rb_ne (tgt := 9) hx hb dX10_image_4 rfl (fun c4 => ?_) (fun c4 => ?_)
  · have h := br_p c4 h
    refine lv_aload_n hx hb dX10_image_9 rfl (lv_at hl 0 rfl) ?_
    refine gf_X10_64_X_0 X hP dX10_image_10 ?_
    refine lv_aload_n hx hb dX10_image_13 rfl (lv_at hl 0 rfl) ?_
    refine gf_X10_60_X_0 X hP dX10_image_14 ?_
    obtain ⟨o1, hco1, h⟩ := bd_of h
    obtain ⟨hF, hFA⟩ := fo_X_BB_33_24 hP
    refine kVN (rest := []) X dX10_image_17 wd_4_166 mw_X1_copyFrom wd_4_168 wp_6_0 hF (k0 := 0) rfl rfl rfl hS hFA (c_X1_copyFrom hco1) rfl hl.1 rfl (Nat.le_of_ble_eq_true rfl) rfl rfl ⟨Nat.le_of_ble_eq_true rfl, Nat.le_of_ble_eq_true rfl⟩ (fun H locs hF1 _ hk hS => ?_)
    have hP := un_X_BB_33_24 hP hk hF1
    refine W.eq (g2 := F0 m 20 ls []) rfl ?_
    refine lv_aload_n hx hb dX10_image_20 rfl (lv_at hl 0 rfl) ?_
    refine lv_iconst (v := 1) hx hb dX10_image_21 rfl ?_
    refine pf_X10_113_X_0 (v0 := true) X hP hS dX10_image_22 (fun H locs hP hS => ?_)
    refine lv_aload_n hx hb dX10_image_25 rfl (lv_at hl 0 rfl) ?_
    refine gf_X10_60_X_0 X hP dX10_image_26 ?_
    refine gf_X10_125_X_24 X hP dX10_image_29 ?_
    exact ret h hP hS dX10_image_32
  · have h := br_n c4 h
    refine lv_iconst (v := (-1)) hx hb dX10_image_7 rfl ?_
    exact ret h hP hS dX10_image_8
abbrev rm_X10_back : Room := { frames := 2, cells := 0, slots := 0, locals := 81 }
set_option maxRecDepth 100000 in
set_option maxHeartbeats 4000000 in
theorem c_X10_back {g : gT} {l : Launch} {A : Nat → Prop} {q : Nat → Nat} {z_hasUnit : Bool} {z_hasImage : Bool} {t_length : Int32} {t_bytes : Nat → Int32} {x_width : Int32} {x_guard : Int32} {x_stages : Int32} {x_fold : Int32} {x_pipe : Bool} {x_near : Bool} {s_at : Int32} {o_lines : Int32} {n_at : Int32} {o_kinds : Nat → Int32} {o_operands : Nat → Int32} {o_ties : Nat → Int32} {u_width : Int32} {u_guard : Int32} {u_bits : Int32} {u_stages : Int32} {u_places : Int32} {u_near : Bool} {u_quarter : Int64} {u_eighth : Int64} {u_ln : Int64} {u_shifts : Nat → Int32} {u_angles : Nat → Int64} {u_gains : Nat → Int64} {u_undos : Nat → Int64} {u_digits : Nat → Int32} {r_x : Int64} {r_y : Int64} {r_z : Int64} {r_upBits : Int32} {r_steps : Int32} {r_first : Int64} {r_second : Int64} {v_width : Int32} {v_guard : Int32} {v_bits : Int32} {v_stages : Int32} {v_places : Int32} {v_near : Bool} {v_quarter : Int64} {v_eighth : Int64} {v_ln : Int64} {v_shifts : Nat → Int32} {v_angles : Nat → Int64} {v_gains : Nat → Int64} {v_undos : Nat → Int64} {v_digits : Nat → Int32} {k_x : Int64} {k_y : Int64} {k_z : Int64} {k_upBits : Int32} {k_steps : Int32} {k_first : Int64} {k_second : Int64} {b_jobs : Int32} {b_over : Int32} {b_clocks : Int32} {b_held : Bool} {b_kinds : Nat → Int32} {b_operands : Nat → Int32} {b_ties : Nat → Int32} {b_states : Nat → Int32} {b_gone : Nat → Int32} {b_toldIn : Nat → Int32} {b_broughtIn : Nat → Int32} {b_doneIn : Nat → Int32} {c_jobs : Int32} {c_over : Int32} {c_clocks : Int32} {c_held : Bool} {c_kinds : Nat → Int32} {c_operands : Nat → Int32} {c_ties : Nat → Int32} {c_states : Nat → Int32} {c_gone : Nat → Int32} {c_toldIn : Nat → Int32} {c_broughtIn : Nat → Int32} {c_doneIn : Nat → Int32} {d_jobs : Int32} {d_over : Int32} {d_clocks : Int32} {d_held : Bool} {d_kinds : Nat → Int32} {d_operands : Nat → Int32} {d_ties : Nat → Int32} {d_states : Nat → Int32} {d_gone : Nat → Int32} {d_toldIn : Nat → Int32} {d_broughtIn : Nat → Int32} {d_doneIn : Nat → Int32} {z_refusals : Nat → Int32}  {o : Int32 × Int32 × Int32 × Int32 × Bool × (Nat → Int32) × (Nat → Int32) × (Nat → Int32) × (Nat → Int32) × (Nat → Int32) × (Nat → Int32) × (Nat → Int32) × (Nat → Int32)} (h : f_X10_back  z_hasImage b_jobs b_over b_clocks b_held b_kinds b_operands b_ties b_states b_gone b_toldIn b_broughtIn b_doneIn c_jobs c_over c_clocks c_held c_kinds c_operands c_ties c_states c_gone c_toldIn c_broughtIn c_doneIn = some o) : Std g l yX10_back (.code yX10_back cX10_back 1 (some .int) :: gw) rm_X10_back A [.ref (q 0)] (wX g q z_hasUnit z_hasImage t_length t_bytes x_width x_guard x_stages x_fold x_pipe x_near s_at o_lines n_at o_kinds o_operands o_ties u_width u_guard u_bits u_stages u_places u_near u_quarter u_eighth u_ln u_shifts u_angles u_gains u_undos u_digits r_x r_y r_z r_upBits r_steps r_first r_second v_width v_guard v_bits v_stages v_places v_near v_quarter v_eighth v_ln v_shifts v_angles v_gains v_undos v_digits k_x k_y k_z k_upBits k_steps k_first k_second b_jobs b_over b_clocks b_held b_kinds b_operands b_ties b_states b_gone b_toldIn b_broughtIn b_doneIn c_jobs c_over c_clocks c_held c_kinds c_operands c_ties c_states c_gone c_toldIn c_broughtIn c_doneIn d_jobs d_over d_clocks d_held d_kinds d_operands d_ties d_states d_gone d_toldIn d_broughtIn d_doneIn z_refusals) (wX g q z_hasUnit z_hasImage t_length t_bytes x_width x_guard x_stages x_fold x_pipe x_near s_at o_lines n_at o_kinds o_operands o_ties u_width u_guard u_bits u_stages u_places u_near u_quarter u_eighth u_ln u_shifts u_angles u_gains u_undos u_digits r_x r_y r_z r_upBits r_steps r_first r_second v_width v_guard v_bits v_stages v_places v_near v_quarter v_eighth v_ln v_shifts v_angles v_gains v_undos v_digits k_x k_y k_z k_upBits k_steps k_first k_second o.2.1 o.2.2.1 o.2.2.2.1 o.2.2.2.2.1 o.2.2.2.2.2.1 o.2.2.2.2.2.2.1 o.2.2.2.2.2.2.2.1 o.2.2.2.2.2.2.2.2.1 o.2.2.2.2.2.2.2.2.2.1 o.2.2.2.2.2.2.2.2.2.2.1 o.2.2.2.2.2.2.2.2.2.2.2.1 o.2.2.2.2.2.2.2.2.2.2.2.2 c_jobs c_over c_clocks c_held c_kinds c_operands c_ties c_states c_gone c_toldIn c_broughtIn c_doneIn d_jobs d_over d_clocks d_held d_kinds d_operands d_ties d_states d_gone d_toldIn d_broughtIn d_doneIn z_refusals) (some (.int o.1)) := by
  refine std_i (own := RX10) (by decide +kernel) rfl (Nat.le_of_ble_eq_true rfl) ?_
  intro p e s m args below meth c Q X ret H locs hP hS ls hl
  have hx := X.1
  have hb := X.2.1
  have hl : lv_has ls 1 [(0, .ref (q 0))] := hl
  have ret : ∀ {H : Heap} {locs : List Loc} {pc : Nat} {ls : Array Slot} {v : Int32} {b_jobs : Int32} {b_over : Int32} {b_clocks : Int32} {b_held : Bool} {b_kinds : Nat → Int32} {b_operands : Nat → Int32} {b_ties : Nat → Int32} {b_states : Nat → Int32} {b_gone : Nat → Int32} {b_toldIn : Nat → Int32} {b_broughtIn : Nat → Int32} {b_doneIn : Nat → Int32}, some (v, b_jobs, b_over, b_clocks, b_held, b_kinds, b_operands, b_ties, b_states, b_gone, b_toldIn, b_broughtIn, b_doneIn) = some o → WP g A (wX g q z_hasUnit z_hasImage t_length t_bytes x_width x_guard x_stages x_fold x_pipe x_near s_at o_lines n_at o_kinds o_operands o_ties u_width u_guard u_bits u_stages u_places u_near u_quarter u_eighth u_ln u_shifts u_angles u_gains u_undos u_digits r_x r_y r_z r_upBits r_steps r_first r_second v_width v_guard v_bits v_stages v_places v_near v_quarter v_eighth v_ln v_shifts v_angles v_gains v_undos v_digits k_x k_y k_z k_upBits k_steps k_first k_second b_jobs b_over b_clocks b_held b_kinds b_operands b_ties b_states b_gone b_toldIn b_broughtIn b_doneIn c_jobs c_over c_clocks c_held c_kinds c_operands c_ties c_states c_gone c_toldIn c_broughtIn c_doneIn d_jobs d_over d_clocks d_held d_kinds d_operands d_ties d_states d_gone d_toldIn d_broughtIn d_doneIn z_refusals) H → va_S A s.heap H locs → decode cX10_back pc = .ok (.ireturn, 1) → W p l e rm_X10_back s m args below meth c H locs 0 0 Q (F0 m pc ls [.int v]) := by
    intro H locs pc ls v b_jobs b_over b_clocks b_held b_kinds b_operands b_ties b_states b_gone b_toldIn b_broughtIn b_doneIn h hP hS hd
    cases h
    exact ret hP hS hd
  unfold f_X10_back at h
  refine lv_aload_n hx hb dX10_back_0 rfl (lv_at hl 0 rfl) ?_
  refine gf_X10_113_X_0 X hP dX10_back_1 ?_
  refine rb_ne (tgt := 9) hx hb dX10_back_4 rfl (fun c4 => ?_) (fun c4 => ?_)
  · have h := br_p c4 h
    refine lv_aload_n hx hb dX10_back_9 rfl (lv_at hl 0 rfl) ?_
    refine gf_X10_60_X_0 X hP dX10_back_10 ?_
    refine lv_aload_n hx hb dX10_back_13 rfl (lv_at hl 0 rfl) ?_
    refine gf_X10_64_X_0 X hP dX10_back_14 ?_
    obtain ⟨o1, hco1, h⟩ := bd_of h
    obtain ⟨hF, hFA⟩ := fo_X_BB_24_33 hP
    refine kVN (rest := []) X dX10_back_17 wd_4_166 mw_X1_copyFrom wd_4_168 wp_6_0 hF (k0 := 0) rfl rfl rfl hS hFA (c_X1_copyFrom hco1) rfl hl.1 rfl (Nat.le_of_ble_eq_true rfl) rfl rfl ⟨Nat.le_of_ble_eq_true rfl, Nat.le_of_ble_eq_true rfl⟩ (fun H locs hF1 _ hk hS => ?_)
    have hP := un_X_BB_24_33 hP hk hF1
    refine W.eq (g2 := F0 m 20 ls []) rfl ?_
    refine lv_aload_n hx hb dX10_back_20 rfl (lv_at hl 0 rfl) ?_
    refine gf_X10_60_X_0 X hP dX10_back_21 ?_
    refine gf_X10_125_X_24 X hP dX10_back_24 ?_
    exact ret h hP hS dX10_back_27
  · have h := br_n c4 h
    refine lv_iconst (v := (-1)) hx hb dX10_back_7 rfl ?_
    exact ret h hP hS dX10_back_8
abbrev rm_X10_waits : Room := { frames := 1, cells := 0, slots := 0, locals := 23 }
set_option maxRecDepth 100000 in
set_option maxHeartbeats 4000000 in
theorem c_X10_waits {g : gT} {l : Launch} {A : Nat → Prop} {q : Nat → Nat} {z_hasUnit : Bool} {z_hasImage : Bool} {t_length : Int32} {t_bytes : Nat → Int32} {x_width : Int32} {x_guard : Int32} {x_stages : Int32} {x_fold : Int32} {x_pipe : Bool} {x_near : Bool} {s_at : Int32} {o_lines : Int32} {n_at : Int32} {o_kinds : Nat → Int32} {o_operands : Nat → Int32} {o_ties : Nat → Int32} {u_width : Int32} {u_guard : Int32} {u_bits : Int32} {u_stages : Int32} {u_places : Int32} {u_near : Bool} {u_quarter : Int64} {u_eighth : Int64} {u_ln : Int64} {u_shifts : Nat → Int32} {u_angles : Nat → Int64} {u_gains : Nat → Int64} {u_undos : Nat → Int64} {u_digits : Nat → Int32} {r_x : Int64} {r_y : Int64} {r_z : Int64} {r_upBits : Int32} {r_steps : Int32} {r_first : Int64} {r_second : Int64} {v_width : Int32} {v_guard : Int32} {v_bits : Int32} {v_stages : Int32} {v_places : Int32} {v_near : Bool} {v_quarter : Int64} {v_eighth : Int64} {v_ln : Int64} {v_shifts : Nat → Int32} {v_angles : Nat → Int64} {v_gains : Nat → Int64} {v_undos : Nat → Int64} {v_digits : Nat → Int32} {k_x : Int64} {k_y : Int64} {k_z : Int64} {k_upBits : Int32} {k_steps : Int32} {k_first : Int64} {k_second : Int64} {b_jobs : Int32} {b_over : Int32} {b_clocks : Int32} {b_held : Bool} {b_kinds : Nat → Int32} {b_operands : Nat → Int32} {b_ties : Nat → Int32} {b_states : Nat → Int32} {b_gone : Nat → Int32} {b_toldIn : Nat → Int32} {b_broughtIn : Nat → Int32} {b_doneIn : Nat → Int32} {c_jobs : Int32} {c_over : Int32} {c_clocks : Int32} {c_held : Bool} {c_kinds : Nat → Int32} {c_operands : Nat → Int32} {c_ties : Nat → Int32} {c_states : Nat → Int32} {c_gone : Nat → Int32} {c_toldIn : Nat → Int32} {c_broughtIn : Nat → Int32} {c_doneIn : Nat → Int32} {d_jobs : Int32} {d_over : Int32} {d_clocks : Int32} {d_held : Bool} {d_kinds : Nat → Int32} {d_operands : Nat → Int32} {d_ties : Nat → Int32} {d_states : Nat → Int32} {d_gone : Nat → Int32} {d_toldIn : Nat → Int32} {d_broughtIn : Nat → Int32} {d_doneIn : Nat → Int32} {z_refusals : Nat → Int32} {p0 : Int32} {o : Int32} (h : f_X10_waits p0 z_hasUnit b_jobs b_over b_states = some o) : Std g l yX10_waits (.code yX10_waits cX10_waits 2 (some .int) :: gw) rm_X10_waits A [.ref (q 0), .int p0] (wX g q z_hasUnit z_hasImage t_length t_bytes x_width x_guard x_stages x_fold x_pipe x_near s_at o_lines n_at o_kinds o_operands o_ties u_width u_guard u_bits u_stages u_places u_near u_quarter u_eighth u_ln u_shifts u_angles u_gains u_undos u_digits r_x r_y r_z r_upBits r_steps r_first r_second v_width v_guard v_bits v_stages v_places v_near v_quarter v_eighth v_ln v_shifts v_angles v_gains v_undos v_digits k_x k_y k_z k_upBits k_steps k_first k_second b_jobs b_over b_clocks b_held b_kinds b_operands b_ties b_states b_gone b_toldIn b_broughtIn b_doneIn c_jobs c_over c_clocks c_held c_kinds c_operands c_ties c_states c_gone c_toldIn c_broughtIn c_doneIn d_jobs d_over d_clocks d_held d_kinds d_operands d_ties d_states d_gone d_toldIn d_broughtIn d_doneIn z_refusals) (wX g q z_hasUnit z_hasImage t_length t_bytes x_width x_guard x_stages x_fold x_pipe x_near s_at o_lines n_at o_kinds o_operands o_ties u_width u_guard u_bits u_stages u_places u_near u_quarter u_eighth u_ln u_shifts u_angles u_gains u_undos u_digits r_x r_y r_z r_upBits r_steps r_first r_second v_width v_guard v_bits v_stages v_places v_near v_quarter v_eighth v_ln v_shifts v_angles v_gains v_undos v_digits k_x k_y k_z k_upBits k_steps k_first k_second b_jobs b_over b_clocks b_held b_kinds b_operands b_ties b_states b_gone b_toldIn b_broughtIn b_doneIn c_jobs c_over c_clocks c_held c_kinds c_operands c_ties c_states c_gone c_toldIn c_broughtIn c_doneIn d_jobs d_over d_clocks d_held d_kinds d_operands d_ties d_states d_gone d_toldIn d_broughtIn d_doneIn z_refusals) (some (.int o)) := by
  refine std_i (own := RX10) (by decide +kernel) rfl (Nat.le_of_ble_eq_true rfl) ?_
  intro p e s m args below meth c Q X ret H locs hP hS ls hl
  have hx := X.1
  have hb := X.2.1
  have hl : lv_has ls 2 [(0, .ref (q 0)), (1, .int p0)] := hl
  have ret : ∀ {H : Heap} {locs : List Loc} {pc : Nat} {ls : Array Slot} {v : Int32} , some (v) = some o → WP g A (wX g q z_hasUnit z_hasImage t_length t_bytes x_width x_guard x_stages x_fold x_pipe x_near s_at o_lines n_at o_kinds o_operands o_ties u_width u_guard u_bits u_stages u_places u_near u_quarter u_eighth u_ln u_shifts u_angles u_gains u_undos u_digits r_x r_y r_z r_upBits r_steps r_first r_second v_width v_guard v_bits v_stages v_places v_near v_quarter v_eighth v_ln v_shifts v_angles v_gains v_undos v_digits k_x k_y k_z k_upBits k_steps k_first k_second b_jobs b_over b_clocks b_held b_kinds b_operands b_ties b_states b_gone b_toldIn b_broughtIn b_doneIn c_jobs c_over c_clocks c_held c_kinds c_operands c_ties c_states c_gone c_toldIn c_broughtIn c_doneIn d_jobs d_over d_clocks d_held d_kinds d_operands d_ties d_states d_gone d_toldIn d_broughtIn d_doneIn z_refusals) H → va_S A s.heap H locs → decode cX10_waits pc = .ok (.ireturn, 1) → W p l e rm_X10_waits s m args below meth c H locs 0 0 Q (F0 m pc ls [.int v]) := by
    intro H locs pc ls v h hP hS hd
    cases h
    exact ret hP hS hd
  unfold f_X10_waits at h
  refine lv_aload_n hx hb dX10_waits_0 rfl (lv_at hl 0 rfl) ?_
  refine gf_X10_110_X_0 X hP dX10_waits_1 ?_
  refine rb_ne (tgt := 9) hx hb dX10_waits_4 rfl (fun c4 => ?_) (fun c4 => ?_)
  · have h := br_p c4 h
    refine lv_iload_n hx hb dX10_waits_9 rfl (lv_at hl 1 rfl) ?_
    refine lv_iconst (v := (-1)) hx hb dX10_waits_10 rfl ?_
    refine lv_icmp_ne (tgt := 25) hx hb dX10_waits_11 rfl (fun c11 => ?_) (fun c11 => ?_)
    · have h := br_n c11 h
      refine lv_aload_n hx hb dX10_waits_25 rfl (lv_at hl 0 rfl) ?_
      refine gf_X10_60_X_0 X hP dX10_waits_26 ?_
      refine lv_iload_n hx hb dX10_waits_29 rfl (lv_at hl 1 rfl) ?_
      obtain ⟨o1, hco1, h⟩ := bd_of h
      obtain ⟨hF, hFA⟩ := fo_X_Book_24 hP
      refine kVN (rest := []) X dX10_waits_30 wd_4_213 mw_X1_waiting wd_4_105 wp_5_9 hF (k0 := 0) rfl rfl rfl hS hFA (c_X1_waiting hco1) rfl hl.1 rfl (Nat.le_of_ble_eq_true rfl) rfl rfl ⟨Nat.le_of_ble_eq_true rfl, Nat.le_of_ble_eq_true rfl⟩ (fun H locs hF1 _ hk hS => ?_)
      have hP := un_X_Book_24 hP hk hF1
      refine W.eq (g2 := F0 m 33 ls [.int o1]) rfl ?_
      exact ret h hP hS dX10_waits_33
    · have h := br_p c11 h
      refine lv_aload_n hx hb dX10_waits_14 rfl (lv_at hl 0 rfl) ?_
      refine gf_X10_60_X_0 X hP dX10_waits_15 ?_
      refine lv_iconst (v := 0) hx hb dX10_waits_18 rfl ?_
      obtain ⟨o2, hco2, h⟩ := bd_of h
      obtain ⟨hF, hFA⟩ := fo_X_Book_24 hP
      refine kVN (rest := []) X dX10_waits_19 wd_3_78 mw_X1_howMany wd_3_80 wp_2_15 hF (k0 := 0) rfl rfl rfl hS hFA (c_X1_howMany hco2) rfl hl.1 rfl (Nat.le_of_ble_eq_true rfl) rfl rfl ⟨Nat.le_of_ble_eq_true rfl, Nat.le_of_ble_eq_true rfl⟩ (fun H locs hF1 _ hk hS => ?_)
      have hP := un_X_Book_24 hP hk hF1
      refine W.eq (g2 := F0 m 22 ls [.int o2]) rfl ?_
      refine lv_goto (tgt := 33) hx hb dX10_waits_22 rfl ?_
      exact ret h hP hS dX10_waits_33
  · have h := br_n c4 h
    refine lv_iconst (v := (-1)) hx hb dX10_waits_7 rfl ?_
    exact ret h hP hS dX10_waits_8
abbrev rm_X10_status : Room := { frames := 0, cells := 0, slots := 0, locals := 0 }
set_option maxRecDepth 100000 in
set_option maxHeartbeats 4000000 in
theorem c_X10_status {g : gT} {l : Launch} {A : Nat → Prop} {q : Nat → Nat} {z_hasUnit : Bool} {z_hasImage : Bool} {t_length : Int32} {t_bytes : Nat → Int32} {x_width : Int32} {x_guard : Int32} {x_stages : Int32} {x_fold : Int32} {x_pipe : Bool} {x_near : Bool} {s_at : Int32} {o_lines : Int32} {n_at : Int32} {o_kinds : Nat → Int32} {o_operands : Nat → Int32} {o_ties : Nat → Int32} {u_width : Int32} {u_guard : Int32} {u_bits : Int32} {u_stages : Int32} {u_places : Int32} {u_near : Bool} {u_quarter : Int64} {u_eighth : Int64} {u_ln : Int64} {u_shifts : Nat → Int32} {u_angles : Nat → Int64} {u_gains : Nat → Int64} {u_undos : Nat → Int64} {u_digits : Nat → Int32} {r_x : Int64} {r_y : Int64} {r_z : Int64} {r_upBits : Int32} {r_steps : Int32} {r_first : Int64} {r_second : Int64} {v_width : Int32} {v_guard : Int32} {v_bits : Int32} {v_stages : Int32} {v_places : Int32} {v_near : Bool} {v_quarter : Int64} {v_eighth : Int64} {v_ln : Int64} {v_shifts : Nat → Int32} {v_angles : Nat → Int64} {v_gains : Nat → Int64} {v_undos : Nat → Int64} {v_digits : Nat → Int32} {k_x : Int64} {k_y : Int64} {k_z : Int64} {k_upBits : Int32} {k_steps : Int32} {k_first : Int64} {k_second : Int64} {b_jobs : Int32} {b_over : Int32} {b_clocks : Int32} {b_held : Bool} {b_kinds : Nat → Int32} {b_operands : Nat → Int32} {b_ties : Nat → Int32} {b_states : Nat → Int32} {b_gone : Nat → Int32} {b_toldIn : Nat → Int32} {b_broughtIn : Nat → Int32} {b_doneIn : Nat → Int32} {c_jobs : Int32} {c_over : Int32} {c_clocks : Int32} {c_held : Bool} {c_kinds : Nat → Int32} {c_operands : Nat → Int32} {c_ties : Nat → Int32} {c_states : Nat → Int32} {c_gone : Nat → Int32} {c_toldIn : Nat → Int32} {c_broughtIn : Nat → Int32} {c_doneIn : Nat → Int32} {d_jobs : Int32} {d_over : Int32} {d_clocks : Int32} {d_held : Bool} {d_kinds : Nat → Int32} {d_operands : Nat → Int32} {d_ties : Nat → Int32} {d_states : Nat → Int32} {d_gone : Nat → Int32} {d_toldIn : Nat → Int32} {d_broughtIn : Nat → Int32} {d_doneIn : Nat → Int32} {z_refusals : Nat → Int32} {p0 : Int32} {o : Int32} (h : f_X10_status p0 z_refusals = some o) : Std g l yX10_status (.code yX10_status cX10_status 2 (some .int) :: gw) rm_X10_status A [.ref (q 0), .int p0] (wX g q z_hasUnit z_hasImage t_length t_bytes x_width x_guard x_stages x_fold x_pipe x_near s_at o_lines n_at o_kinds o_operands o_ties u_width u_guard u_bits u_stages u_places u_near u_quarter u_eighth u_ln u_shifts u_angles u_gains u_undos u_digits r_x r_y r_z r_upBits r_steps r_first r_second v_width v_guard v_bits v_stages v_places v_near v_quarter v_eighth v_ln v_shifts v_angles v_gains v_undos v_digits k_x k_y k_z k_upBits k_steps k_first k_second b_jobs b_over b_clocks b_held b_kinds b_operands b_ties b_states b_gone b_toldIn b_broughtIn b_doneIn c_jobs c_over c_clocks c_held c_kinds c_operands c_ties c_states c_gone c_toldIn c_broughtIn c_doneIn d_jobs d_over d_clocks d_held d_kinds d_operands d_ties d_states d_gone d_toldIn d_broughtIn d_doneIn z_refusals) (wX g q z_hasUnit z_hasImage t_length t_bytes x_width x_guard x_stages x_fold x_pipe x_near s_at o_lines n_at o_kinds o_operands o_ties u_width u_guard u_bits u_stages u_places u_near u_quarter u_eighth u_ln u_shifts u_angles u_gains u_undos u_digits r_x r_y r_z r_upBits r_steps r_first r_second v_width v_guard v_bits v_stages v_places v_near v_quarter v_eighth v_ln v_shifts v_angles v_gains v_undos v_digits k_x k_y k_z k_upBits k_steps k_first k_second b_jobs b_over b_clocks b_held b_kinds b_operands b_ties b_states b_gone b_toldIn b_broughtIn b_doneIn c_jobs c_over c_clocks c_held c_kinds c_operands c_ties c_states c_gone c_toldIn c_broughtIn c_doneIn d_jobs d_over d_clocks d_held d_kinds d_operands d_ties d_states d_gone d_toldIn d_broughtIn d_doneIn z_refusals) (some (.int o)) := by
  refine std_i (own := RX10) (by decide +kernel) rfl (Nat.le_of_ble_eq_true rfl) ?_
  intro p e s m args below meth c Q X ret H locs hP hS ls hl
  have hx := X.1
  have hb := X.2.1
  have hl : lv_has ls 2 [(0, .ref (q 0)), (1, .int p0)] := hl
  have ret : ∀ {H : Heap} {locs : List Loc} {pc : Nat} {ls : Array Slot} {v : Int32} , some (v) = some o → WP g A (wX g q z_hasUnit z_hasImage t_length t_bytes x_width x_guard x_stages x_fold x_pipe x_near s_at o_lines n_at o_kinds o_operands o_ties u_width u_guard u_bits u_stages u_places u_near u_quarter u_eighth u_ln u_shifts u_angles u_gains u_undos u_digits r_x r_y r_z r_upBits r_steps r_first r_second v_width v_guard v_bits v_stages v_places v_near v_quarter v_eighth v_ln v_shifts v_angles v_gains v_undos v_digits k_x k_y k_z k_upBits k_steps k_first k_second b_jobs b_over b_clocks b_held b_kinds b_operands b_ties b_states b_gone b_toldIn b_broughtIn b_doneIn c_jobs c_over c_clocks c_held c_kinds c_operands c_ties c_states c_gone c_toldIn c_broughtIn c_doneIn d_jobs d_over d_clocks d_held d_kinds d_operands d_ties d_states d_gone d_toldIn d_broughtIn d_doneIn z_refusals) H → va_S A s.heap H locs → decode cX10_status pc = .ok (.ireturn, 1) → W p l e rm_X10_status s m args below meth c H locs 0 0 Q (F0 m pc ls [.int v]) := by
    intro H locs pc ls v h hP hS hd
    cases h
    exact ret hP hS hd
  have b22 : ∀  (H : Heap) (locs : List Loc) (ls : Array Slot), f_X10_status_b22  z_refusals   = some o → WP g A (wX g q z_hasUnit z_hasImage t_length t_bytes x_width x_guard x_stages x_fold x_pipe x_near s_at o_lines n_at o_kinds o_operands o_ties u_width u_guard u_bits u_stages u_places u_near u_quarter u_eighth u_ln u_shifts u_angles u_gains u_undos u_digits r_x r_y r_z r_upBits r_steps r_first r_second v_width v_guard v_bits v_stages v_places v_near v_quarter v_eighth v_ln v_shifts v_angles v_gains v_undos v_digits k_x k_y k_z k_upBits k_steps k_first k_second b_jobs b_over b_clocks b_held b_kinds b_operands b_ties b_states b_gone b_toldIn b_broughtIn b_doneIn c_jobs c_over c_clocks c_held c_kinds c_operands c_ties c_states c_gone c_toldIn c_broughtIn c_doneIn d_jobs d_over d_clocks d_held d_kinds d_operands d_ties d_states d_gone d_toldIn d_broughtIn d_doneIn z_refusals) H → va_S A s.heap H locs → lv_has ls 2 [] → W p l e rm_X10_status s m args below meth c H locs 0 0 Q (F0 m 22 ls []) := by
    intro   H locs ls h hP hS hl
    unfold f_X10_status_b22 at h
    refine lv_iconst (v := (-1)) hx hb dX10_status_22 rfl ?_
    exact ret h hP hS dX10_status_23
  unfold f_X10_status at h
  refine lv_iload_n hx hb dX10_status_0 rfl (lv_at hl 1 rfl) ?_
  refine lv_if_lt (tgt := 22) hx hb dX10_status_1 rfl (fun c1 => ?_) (fun c1 => ?_)
  · have h := br_p c1 h
    exact b22    _ _ _ h hP hS (lv_sub hl [] rfl)
  · have h := br_n c1 h
    refine lv_iload_n hx hb dX10_status_4 rfl (lv_at hl 1 rfl) ?_
    refine lv_aload_n hx hb dX10_status_5 rfl (lv_at hl 0 rfl) ?_
    refine gf_X10_70_X_0 X hP dX10_status_6 ?_
    refine an_X_51 X hP dX10_status_9 ?_
    refine lv_icmp_ge (tgt := 22) hx hb dX10_status_10 rfl (fun c10 => ?_) (fun c10 => ?_)
    · have h := br_p c10 h
      exact b22    _ _ _ h hP hS (lv_sub hl [] rfl)
    · have h := br_n c10 h
      refine lv_aload_n hx hb dX10_status_13 rfl (lv_at hl 0 rfl) ?_
      refine gf_X10_70_X_0 X hP dX10_status_14 ?_
      refine lv_iload_n hx hb dX10_status_17 rfl (lv_at hl 1 rfl) ?_
      obtain ⟨hi18, h⟩ := gv_of h
      refine al_X_51 X hP hi18 dX10_status_18 ?_
      refine lv_goto (tgt := 23) hx hb dX10_status_19 rfl ?_
      exact ret h hP hS dX10_status_23
abbrev rm_X10_most : Room := { frames := 6, cells := 0, slots := 0, locals := 156 }
set_option maxRecDepth 100000 in
set_option maxHeartbeats 4000000 in
theorem c_X10_most {g : gT} {l : Launch} {A : Nat → Prop} {q : Nat → Nat} {z_hasUnit : Bool} {z_hasImage : Bool} {t_length : Int32} {t_bytes : Nat → Int32} {x_width : Int32} {x_guard : Int32} {x_stages : Int32} {x_fold : Int32} {x_pipe : Bool} {x_near : Bool} {s_at : Int32} {o_lines : Int32} {n_at : Int32} {o_kinds : Nat → Int32} {o_operands : Nat → Int32} {o_ties : Nat → Int32} {u_width : Int32} {u_guard : Int32} {u_bits : Int32} {u_stages : Int32} {u_places : Int32} {u_near : Bool} {u_quarter : Int64} {u_eighth : Int64} {u_ln : Int64} {u_shifts : Nat → Int32} {u_angles : Nat → Int64} {u_gains : Nat → Int64} {u_undos : Nat → Int64} {u_digits : Nat → Int32} {r_x : Int64} {r_y : Int64} {r_z : Int64} {r_upBits : Int32} {r_steps : Int32} {r_first : Int64} {r_second : Int64} {v_width : Int32} {v_guard : Int32} {v_bits : Int32} {v_stages : Int32} {v_places : Int32} {v_near : Bool} {v_quarter : Int64} {v_eighth : Int64} {v_ln : Int64} {v_shifts : Nat → Int32} {v_angles : Nat → Int64} {v_gains : Nat → Int64} {v_undos : Nat → Int64} {v_digits : Nat → Int32} {k_x : Int64} {k_y : Int64} {k_z : Int64} {k_upBits : Int32} {k_steps : Int32} {k_first : Int64} {k_second : Int64} {b_jobs : Int32} {b_over : Int32} {b_clocks : Int32} {b_held : Bool} {b_kinds : Nat → Int32} {b_operands : Nat → Int32} {b_ties : Nat → Int32} {b_states : Nat → Int32} {b_gone : Nat → Int32} {b_toldIn : Nat → Int32} {b_broughtIn : Nat → Int32} {b_doneIn : Nat → Int32} {c_jobs : Int32} {c_over : Int32} {c_clocks : Int32} {c_held : Bool} {c_kinds : Nat → Int32} {c_operands : Nat → Int32} {c_ties : Nat → Int32} {c_states : Nat → Int32} {c_gone : Nat → Int32} {c_toldIn : Nat → Int32} {c_broughtIn : Nat → Int32} {c_doneIn : Nat → Int32} {d_jobs : Int32} {d_over : Int32} {d_clocks : Int32} {d_held : Bool} {d_kinds : Nat → Int32} {d_operands : Nat → Int32} {d_ties : Nat → Int32} {d_states : Nat → Int32} {d_gone : Nat → Int32} {d_toldIn : Nat → Int32} {d_broughtIn : Nat → Int32} {d_doneIn : Nat → Int32} {z_refusals : Nat → Int32} {p0 : Int32} {o : Int64 × Int64 × Int64 × Int64 × Int32 × Int32 × Int64 × Int64} (h : f_X10_most p0 z_hasUnit u_guard u_bits u_stages u_near u_quarter u_ln u_shifts u_angles u_undos r_x r_y r_z r_upBits r_steps r_first r_second b_jobs b_kinds b_operands b_states b_toldIn b_doneIn = some o) : Std g l yX10_most (.code yX10_most cX10_most 2 (some .long) :: gw) rm_X10_most A [.ref (q 0), .int p0] (wX g q z_hasUnit z_hasImage t_length t_bytes x_width x_guard x_stages x_fold x_pipe x_near s_at o_lines n_at o_kinds o_operands o_ties u_width u_guard u_bits u_stages u_places u_near u_quarter u_eighth u_ln u_shifts u_angles u_gains u_undos u_digits r_x r_y r_z r_upBits r_steps r_first r_second v_width v_guard v_bits v_stages v_places v_near v_quarter v_eighth v_ln v_shifts v_angles v_gains v_undos v_digits k_x k_y k_z k_upBits k_steps k_first k_second b_jobs b_over b_clocks b_held b_kinds b_operands b_ties b_states b_gone b_toldIn b_broughtIn b_doneIn c_jobs c_over c_clocks c_held c_kinds c_operands c_ties c_states c_gone c_toldIn c_broughtIn c_doneIn d_jobs d_over d_clocks d_held d_kinds d_operands d_ties d_states d_gone d_toldIn d_broughtIn d_doneIn z_refusals) (wX g q z_hasUnit z_hasImage t_length t_bytes x_width x_guard x_stages x_fold x_pipe x_near s_at o_lines n_at o_kinds o_operands o_ties u_width u_guard u_bits u_stages u_places u_near u_quarter u_eighth u_ln u_shifts u_angles u_gains u_undos u_digits o.2.1 o.2.2.1 o.2.2.2.1 o.2.2.2.2.1 o.2.2.2.2.2.1 o.2.2.2.2.2.2.1 o.2.2.2.2.2.2.2 v_width v_guard v_bits v_stages v_places v_near v_quarter v_eighth v_ln v_shifts v_angles v_gains v_undos v_digits k_x k_y k_z k_upBits k_steps k_first k_second b_jobs b_over b_clocks b_held b_kinds b_operands b_ties b_states b_gone b_toldIn b_broughtIn b_doneIn c_jobs c_over c_clocks c_held c_kinds c_operands c_ties c_states c_gone c_toldIn c_broughtIn c_doneIn d_jobs d_over d_clocks d_held d_kinds d_operands d_ties d_states d_gone d_toldIn d_broughtIn d_doneIn z_refusals) (some (.long o.1)) := by
  refine std_l (own := RX10) (by decide +kernel) rfl (Nat.le_of_ble_eq_true rfl) ?_
  intro p e s m args below meth c Q X ret H locs hP hS ls hl
  have hx := X.1
  have hb := X.2.1
  have hl : lv_has ls 2 [(0, .ref (q 0)), (1, .int p0)] := hl
  have ret : ∀ {H : Heap} {locs : List Loc} {pc : Nat} {ls : Array Slot} {v : Int64} {r_x : Int64} {r_y : Int64} {r_z : Int64} {r_upBits : Int32} {r_steps : Int32} {r_first : Int64} {r_second : Int64}, some (v, r_x, r_y, r_z, r_upBits, r_steps, r_first, r_second) = some o → WP g A (wX g q z_hasUnit z_hasImage t_length t_bytes x_width x_guard x_stages x_fold x_pipe x_near s_at o_lines n_at o_kinds o_operands o_ties u_width u_guard u_bits u_stages u_places u_near u_quarter u_eighth u_ln u_shifts u_angles u_gains u_undos u_digits r_x r_y r_z r_upBits r_steps r_first r_second v_width v_guard v_bits v_stages v_places v_near v_quarter v_eighth v_ln v_shifts v_angles v_gains v_undos v_digits k_x k_y k_z k_upBits k_steps k_first k_second b_jobs b_over b_clocks b_held b_kinds b_operands b_ties b_states b_gone b_toldIn b_broughtIn b_doneIn c_jobs c_over c_clocks c_held c_kinds c_operands c_ties c_states c_gone c_toldIn c_broughtIn c_doneIn d_jobs d_over d_clocks d_held d_kinds d_operands d_ties d_states d_gone d_toldIn d_broughtIn d_doneIn z_refusals) H → va_S A s.heap H locs → decode cX10_most pc = .ok (.lreturn, 1) → W p l e rm_X10_most s m args below meth c H locs 0 0 Q (F0 m pc ls [.long v]) := by
    intro H locs pc ls v r_x r_y r_z r_upBits r_steps r_first r_second h hP hS hd
    cases h
    exact ret hP hS hd
  unfold f_X10_most at h
  refine lv_aload_n hx hb dX10_most_0 rfl (lv_at hl 0 rfl) ?_
  refine gf_X10_110_X_0 X hP dX10_most_1 ?_
  refine rb_ne (tgt := 11) hx hb dX10_most_4 rfl (fun c4 => ?_) (fun c4 => ?_)
  · have h := br_p c4 h
    refine lv_iload_n hx hb dX10_most_11 rfl (lv_at hl 1 rfl) ?_
    by_cases c12_0 : p0 = 0
    · have h := br_p c12_0 h
      refine lv_tableIn (off := 32) (tgt := 44) hx hb dX10_most_12 (by rw [c12_0]; decide) (by rw [c12_0]; decide) (by rw [c12_0]; rfl) rfl ?_
      refine lv_aload_n hx hb dX10_most_44 rfl (lv_at hl 0 rfl) ?_
      refine gf_X10_60_X_0 X hP dX10_most_45 ?_
      refine lv_aload_n hx hb dX10_most_48 rfl (lv_at hl 0 rfl) ?_
      refine gf_X10_46_X_0 X hP dX10_most_49 ?_
      refine lv_iconst (v := 1) hx hb dX10_most_52 rfl ?_
      obtain ⟨o1, hco1, h⟩ := bd_of h
      obtain ⟨hF, hFA⟩ := fo_X_BT_24_16 hP
      refine kVN (rest := []) X dX10_most_53 wd_4_222 mw_X1_greatestLeft wd_4_224 wp_6_3 hF (k0 := 0) rfl rfl rfl hS hFA (c_X1_greatestLeft hco1) rfl hl.1 rfl (Nat.le_of_ble_eq_true rfl) rfl rfl ⟨Nat.le_of_ble_eq_true rfl, Nat.le_of_ble_eq_true rfl⟩ (fun H locs hF1 _ hk hS => ?_)
      have hP := un_X_BT_24_16 hP hk hF1
      refine W.eq (g2 := F0 m 56 ls [.long o1.1]) rfl ?_
      exact ret h hP hS dX10_most_56
    have h := br_n c12_0 h
    by_cases c12_1 : p0 = 1
    · have h := br_p c12_1 h
      refine lv_tableIn (off := 45) (tgt := 57) hx hb dX10_most_12 (by rw [c12_1]; decide) (by rw [c12_1]; decide) (by rw [c12_1]; rfl) rfl ?_
      refine lv_aload_n hx hb dX10_most_57 rfl (lv_at hl 0 rfl) ?_
      refine gf_X10_60_X_0 X hP dX10_most_58 ?_
      refine lv_aload_n hx hb dX10_most_61 rfl (lv_at hl 0 rfl) ?_
      refine gf_X10_46_X_0 X hP dX10_most_62 ?_
      refine lv_iconst (v := 0) hx hb dX10_most_65 rfl ?_
      obtain ⟨o2, hco2, h⟩ := bd_of h
      obtain ⟨hF, hFA⟩ := fo_X_BT_24_16 hP
      refine kVN (rest := []) X dX10_most_66 wd_4_222 mw_X1_greatestLeft wd_4_224 wp_6_3 hF (k0 := 0) rfl rfl rfl hS hFA (c_X1_greatestLeft hco2) rfl hl.1 rfl (Nat.le_of_ble_eq_true rfl) rfl rfl ⟨Nat.le_of_ble_eq_true rfl, Nat.le_of_ble_eq_true rfl⟩ (fun H locs hF1 _ hk hS => ?_)
      have hP := un_X_BT_24_16 hP hk hF1
      refine W.eq (g2 := F0 m 69 ls [.long o2.1]) rfl ?_
      exact ret h hP hS dX10_most_69
    have h := br_n c12_1 h
    by_cases c12_2 : p0 = 2
    · have h := br_p c12_2 h
      refine lv_tableIn (off := 58) (tgt := 70) hx hb dX10_most_12 (by rw [c12_2]; decide) (by rw [c12_2]; decide) (by rw [c12_2]; rfl) rfl ?_
      refine lv_aload_n hx hb dX10_most_70 rfl (lv_at hl 0 rfl) ?_
      refine gf_X10_60_X_0 X hP dX10_most_71 ?_
      obtain ⟨o3, hco3, h⟩ := bd_of h
      obtain ⟨hF, hFA⟩ := fo_X_Book_24 hP
      refine kVN (rest := []) X dX10_most_74 wd_4_232 mw_X1_longestWay wd_4_234 wp_6_4 hF (k0 := 0) rfl rfl rfl hS hFA (c_X1_longestWay hco3) rfl hl.1 rfl (Nat.le_of_ble_eq_true rfl) rfl rfl ⟨Nat.le_of_ble_eq_true rfl, Nat.le_of_ble_eq_true rfl⟩ (fun H locs hF1 _ hk hS => ?_)
      have hP := un_X_Book_24 hP hk hF1
      refine W.eq (g2 := F0 m 77 ls [.long o3]) rfl ?_
      exact ret h hP hS dX10_most_77
    have h := br_n c12_2 h
    by_cases c12_3 : p0 = 3
    · have h := br_p c12_3 h
      refine lv_tableIn (off := 66) (tgt := 78) hx hb dX10_most_12 (by rw [c12_3]; decide) (by rw [c12_3]; decide) (by rw [c12_3]; rfl) rfl ?_
      refine lv_aload_n hx hb dX10_most_78 rfl (lv_at hl 0 rfl) ?_
      refine gf_X10_60_X_0 X hP dX10_most_79 ?_
      refine lv_aload_n hx hb dX10_most_82 rfl (lv_at hl 0 rfl) ?_
      refine gf_X10_37_X_0 X hP dX10_most_83 ?_
      refine gf_X10_116_X_10 X hP dX10_most_86 ?_
      obtain ⟨o4, hco4, h⟩ := bd_of h
      obtain ⟨hF, hFA⟩ := fo_X_Book_24 hP
      refine kVN (rest := []) X dX10_most_89 wd_4_236 mw_X1_sumsMade wd_4_238 wp_6_5 hF (k0 := 0) rfl rfl rfl hS hFA (c_X1_sumsMade hco4) rfl hl.1 rfl (Nat.le_of_ble_eq_true rfl) rfl rfl ⟨Nat.le_of_ble_eq_true rfl, Nat.le_of_ble_eq_true rfl⟩ (fun H locs hF1 _ hk hS => ?_)
      have hP := un_X_Book_24 hP hk hF1
      refine W.eq (g2 := F0 m 92 ls [.long o4]) rfl ?_
      exact ret h hP hS dX10_most_92
    have h := br_n c12_3 h
    refine lv_tableOut (tgt := 93) hx hb dX10_most_12 (by have := lv_neT (a := 0) c12_0 rfl; have := lv_neT (a := 1) c12_1 rfl; have := lv_neT (a := 2) c12_2 rfl; have := lv_neT (a := 3) c12_3 rfl; omega) rfl ?_
    refine lv_ldc2 (v := (-1)) hx hb X.2.2.2.1 (X.2.2.2.2.1 _ wd_4_200) dX10_most_93 ?_
    exact ret h hP hS dX10_most_96
  · have h := br_n c4 h
    refine lv_ldc2 (v := (-1)) hx hb X.2.2.2.1 (X.2.2.2.2.1 _ wd_4_200) dX10_most_7 ?_
    exact ret h hP hS dX10_most_10
abbrev rm_X10_count : Room := { frames := 0, cells := 0, slots := 0, locals := 0 }
set_option maxRecDepth 100000 in
set_option maxHeartbeats 4000000 in
theorem c_X10_count {g : gT} {l : Launch} {A : Nat → Prop} {q : Nat → Nat} {z_hasUnit : Bool} {z_hasImage : Bool} {t_length : Int32} {t_bytes : Nat → Int32} {x_width : Int32} {x_guard : Int32} {x_stages : Int32} {x_fold : Int32} {x_pipe : Bool} {x_near : Bool} {s_at : Int32} {o_lines : Int32} {n_at : Int32} {o_kinds : Nat → Int32} {o_operands : Nat → Int32} {o_ties : Nat → Int32} {u_width : Int32} {u_guard : Int32} {u_bits : Int32} {u_stages : Int32} {u_places : Int32} {u_near : Bool} {u_quarter : Int64} {u_eighth : Int64} {u_ln : Int64} {u_shifts : Nat → Int32} {u_angles : Nat → Int64} {u_gains : Nat → Int64} {u_undos : Nat → Int64} {u_digits : Nat → Int32} {r_x : Int64} {r_y : Int64} {r_z : Int64} {r_upBits : Int32} {r_steps : Int32} {r_first : Int64} {r_second : Int64} {v_width : Int32} {v_guard : Int32} {v_bits : Int32} {v_stages : Int32} {v_places : Int32} {v_near : Bool} {v_quarter : Int64} {v_eighth : Int64} {v_ln : Int64} {v_shifts : Nat → Int32} {v_angles : Nat → Int64} {v_gains : Nat → Int64} {v_undos : Nat → Int64} {v_digits : Nat → Int32} {k_x : Int64} {k_y : Int64} {k_z : Int64} {k_upBits : Int32} {k_steps : Int32} {k_first : Int64} {k_second : Int64} {b_jobs : Int32} {b_over : Int32} {b_clocks : Int32} {b_held : Bool} {b_kinds : Nat → Int32} {b_operands : Nat → Int32} {b_ties : Nat → Int32} {b_states : Nat → Int32} {b_gone : Nat → Int32} {b_toldIn : Nat → Int32} {b_broughtIn : Nat → Int32} {b_doneIn : Nat → Int32} {c_jobs : Int32} {c_over : Int32} {c_clocks : Int32} {c_held : Bool} {c_kinds : Nat → Int32} {c_operands : Nat → Int32} {c_ties : Nat → Int32} {c_states : Nat → Int32} {c_gone : Nat → Int32} {c_toldIn : Nat → Int32} {c_broughtIn : Nat → Int32} {c_doneIn : Nat → Int32} {d_jobs : Int32} {d_over : Int32} {d_clocks : Int32} {d_held : Bool} {d_kinds : Nat → Int32} {d_operands : Nat → Int32} {d_ties : Nat → Int32} {d_states : Nat → Int32} {d_gone : Nat → Int32} {d_toldIn : Nat → Int32} {d_broughtIn : Nat → Int32} {d_doneIn : Nat → Int32} {z_refusals : Nat → Int32} {p0 : Int32} {o : Int32} (h : f_X10_count p0 t_length = some o) : Std g l yX10_count (.code yX10_count cX10_count 2 (some .int) :: gw) rm_X10_count A [.ref (q 0), .int p0] (wX g q z_hasUnit z_hasImage t_length t_bytes x_width x_guard x_stages x_fold x_pipe x_near s_at o_lines n_at o_kinds o_operands o_ties u_width u_guard u_bits u_stages u_places u_near u_quarter u_eighth u_ln u_shifts u_angles u_gains u_undos u_digits r_x r_y r_z r_upBits r_steps r_first r_second v_width v_guard v_bits v_stages v_places v_near v_quarter v_eighth v_ln v_shifts v_angles v_gains v_undos v_digits k_x k_y k_z k_upBits k_steps k_first k_second b_jobs b_over b_clocks b_held b_kinds b_operands b_ties b_states b_gone b_toldIn b_broughtIn b_doneIn c_jobs c_over c_clocks c_held c_kinds c_operands c_ties c_states c_gone c_toldIn c_broughtIn c_doneIn d_jobs d_over d_clocks d_held d_kinds d_operands d_ties d_states d_gone d_toldIn d_broughtIn d_doneIn z_refusals) (wX g q z_hasUnit z_hasImage t_length t_bytes x_width x_guard x_stages x_fold x_pipe x_near s_at o_lines n_at o_kinds o_operands o_ties u_width u_guard u_bits u_stages u_places u_near u_quarter u_eighth u_ln u_shifts u_angles u_gains u_undos u_digits r_x r_y r_z r_upBits r_steps r_first r_second v_width v_guard v_bits v_stages v_places v_near v_quarter v_eighth v_ln v_shifts v_angles v_gains v_undos v_digits k_x k_y k_z k_upBits k_steps k_first k_second b_jobs b_over b_clocks b_held b_kinds b_operands b_ties b_states b_gone b_toldIn b_broughtIn b_doneIn c_jobs c_over c_clocks c_held c_kinds c_operands c_ties c_states c_gone c_toldIn c_broughtIn c_doneIn d_jobs d_over d_clocks d_held d_kinds d_operands d_ties d_states d_gone d_toldIn d_broughtIn d_doneIn z_refusals) (some (.int o)) := by
  refine std_i (own := RX10) (by decide +kernel) rfl (Nat.le_of_ble_eq_true rfl) ?_
  intro p e s m args below meth c Q X ret H locs hP hS ls hl
  have hx := X.1
  have hb := X.2.1
  have hl : lv_has ls 2 [(0, .ref (q 0)), (1, .int p0)] := hl
  have ret : ∀ {H : Heap} {locs : List Loc} {pc : Nat} {ls : Array Slot} {v : Int32} , some (v) = some o → WP g A (wX g q z_hasUnit z_hasImage t_length t_bytes x_width x_guard x_stages x_fold x_pipe x_near s_at o_lines n_at o_kinds o_operands o_ties u_width u_guard u_bits u_stages u_places u_near u_quarter u_eighth u_ln u_shifts u_angles u_gains u_undos u_digits r_x r_y r_z r_upBits r_steps r_first r_second v_width v_guard v_bits v_stages v_places v_near v_quarter v_eighth v_ln v_shifts v_angles v_gains v_undos v_digits k_x k_y k_z k_upBits k_steps k_first k_second b_jobs b_over b_clocks b_held b_kinds b_operands b_ties b_states b_gone b_toldIn b_broughtIn b_doneIn c_jobs c_over c_clocks c_held c_kinds c_operands c_ties c_states c_gone c_toldIn c_broughtIn c_doneIn d_jobs d_over d_clocks d_held d_kinds d_operands d_ties d_states d_gone d_toldIn d_broughtIn d_doneIn z_refusals) H → va_S A s.heap H locs → decode cX10_count pc = .ok (.ireturn, 1) → W p l e rm_X10_count s m args below meth c H locs 0 0 Q (F0 m pc ls [.int v]) := by
    intro H locs pc ls v h hP hS hd
    cases h
    exact ret hP hS hd
  unfold f_X10_count at h
  refine lv_iload_n hx hb dX10_count_0 rfl (lv_at hl 1 rfl) ?_
  refine jx1 h (P := fun (v1 : Int32) => ∀ ls : Array Slot, lv_has ls 2 [] → W p l e rm_X10_count s m args below meth c H locs 0 0 Q (F0 m 15 ls [.int v1])) ?_ ?_
  · intro v1 h ls hl
    exact ret h hP hS dX10_count_15
  · intro J h
    refine lv_if_ne (tgt := 14) hx hb dX10_count_1 rfl (fun c1 => ?_) (fun c1 => ?_)
    · refine lv_iconst (v := (-1)) hx hb dX10_count_14 rfl ?_
      exact J _ (lt_in c1 h) ls (lv_sub hl [] rfl)
    · refine lv_aload_n hx hb dX10_count_4 rfl (lv_at hl 0 rfl) ?_
      refine gf_X10_12_X_0 X hP dX10_count_5 ?_
      refine gf_X10_78_X_1 X hP dX10_count_8 ?_
      refine lv_goto (tgt := 15) hx hb dX10_count_11 rfl ?_
      exact J _ (lt_ip c1 h) ls (lv_sub hl [] rfl)
abbrev rm_X11_thrown : Room := { frames := 0, cells := 0, slots := 0, locals := 0 }
set_option maxRecDepth 100000 in
set_option maxHeartbeats 4000000 in
theorem c_X11_thrown {g : gT} {l : Launch} {A : Nat → Prop} {q : Nat → Nat} {m_thrown : Int32} {m_length : Int32} {m_at : Int32} {m_fault : Int32} {m_toldWords : Int32} {m_orders : Int32} {m_value : Int32} {m_hasUnit : Bool} {m_places : Int32} {m_clocks : Int32} {m_held : Bool} {m_x : Int64} {m_y : Int64} {m_z : Int64} {m_first : Int64} {m_second : Int64} {m_aside : Int32} {m_jobs : Int32} {m_jobsImage : Int32} {m_clocksImage : Int32} {m_heldImage : Bool} {m_hasImage : Bool} {m_tape : Nat → Int32} {m_read : Nat → Int32} {m_order : Nat → Int32} {m_width : Nat → Int32} {m_guard : Nat → Int32} {m_points : Nat → Int32} {m_stages : Nat → Int32} {m_gain : Nat → Int32} {m_undo : Nat → Int32} {m_near : Nat → Bool} {m_quarter : Nat → Int64} {m_ln : Nat → Int64} {m_angle : Nat → Int64} {m_shift : Nat → Int32} {m_digit : Nat → Int32} {m_refused : Nat → Int32} {m_job : Nat → Int32} {m_jobKept : Nat → Int32} {m_result : Nat → Int32} {m_resultKept : Nat → Int32} {m_trace : Nat → Int64} {m_traceKept : Nat → Int64} {m_jobImage : Nat → Int32} {m_resultImage : Nat → Int32} {m_traceImage : Nat → Int64}  {o : Int32} (h : f_X11_thrown  m_thrown = some o) : Std g l yX11_thrown (.code yX11_thrown cX11_thrown 1 (some .int) :: gw) rm_X11_thrown A [.ref (q 0)] (wM g q m_thrown m_length m_at m_fault m_toldWords m_orders m_value m_hasUnit m_places m_clocks m_held m_x m_y m_z m_first m_second m_aside m_jobs m_jobsImage m_clocksImage m_heldImage m_hasImage m_tape m_read m_order m_width m_guard m_points m_stages m_gain m_undo m_near m_quarter m_ln m_angle m_shift m_digit m_refused m_job m_jobKept m_result m_resultKept m_trace m_traceKept m_jobImage m_resultImage m_traceImage) (wM g q m_thrown m_length m_at m_fault m_toldWords m_orders m_value m_hasUnit m_places m_clocks m_held m_x m_y m_z m_first m_second m_aside m_jobs m_jobsImage m_clocksImage m_heldImage m_hasImage m_tape m_read m_order m_width m_guard m_points m_stages m_gain m_undo m_near m_quarter m_ln m_angle m_shift m_digit m_refused m_job m_jobKept m_result m_resultKept m_trace m_traceKept m_jobImage m_resultImage m_traceImage) (some (.int o)) := by
  refine std_i (own := RX11) (by decide +kernel) rfl (Nat.le_of_ble_eq_true rfl) ?_
  intro p e s m args below meth c Q X ret H locs hP hS ls hl
  have hx := X.1
  have hb := X.2.1
  have hl : lv_has ls 1 [(0, .ref (q 0))] := hl
  have ret : ∀ {H : Heap} {locs : List Loc} {pc : Nat} {ls : Array Slot} {v : Int32} , some (v) = some o → WP g A (wM g q m_thrown m_length m_at m_fault m_toldWords m_orders m_value m_hasUnit m_places m_clocks m_held m_x m_y m_z m_first m_second m_aside m_jobs m_jobsImage m_clocksImage m_heldImage m_hasImage m_tape m_read m_order m_width m_guard m_points m_stages m_gain m_undo m_near m_quarter m_ln m_angle m_shift m_digit m_refused m_job m_jobKept m_result m_resultKept m_trace m_traceKept m_jobImage m_resultImage m_traceImage) H → va_S A s.heap H locs → decode cX11_thrown pc = .ok (.ireturn, 1) → W p l e rm_X11_thrown s m args below meth c H locs 0 0 Q (F0 m pc ls [.int v]) := by
    intro H locs pc ls v h hP hS hd
    cases h
    exact ret hP hS hd
  unfold f_X11_thrown at h
  refine lv_aload_n hx hb dX11_thrown_0 rfl (lv_at hl 0 rfl) ?_
  refine gf_X11_5_M_0 X hP dX11_thrown_1 ?_
  exact ret h hP hS dX11_thrown_4
abbrev rm_X11_isIn : Room := { frames := 0, cells := 0, slots := 0, locals := 0 }
set_option maxRecDepth 100000 in
set_option maxHeartbeats 4000000 in
theorem c_X11_isIn {g : gT} {l : Launch} {A : Nat → Prop} {w : va_W} {p0 : Int64} {p1 : Int64} {p2 : Int64} {o : Bool} (h : f_X11_isIn p0 p1 p2  = some o) : Std g l yX11_isIn (.code yX11_isIn cX11_isIn 6 (some .boolean) :: gw) rm_X11_isIn A [.long p0, .long p1, .long p2] w w (some (.int (bI o))) := by
  refine std_z (own := RX11) (by decide +kernel) rfl (Nat.le_of_ble_eq_true rfl) ?_
  intro p e s m args below meth c Q X ret H locs hP hS ls hl
  have hx := X.1
  have hb := X.2.1
  have hl : lv_has ls 6 [(0, .long p0), (2, .long p1), (4, .long p2)] := hl
  have ret : ∀ {H : Heap} {locs : List Loc} {pc : Nat} {ls : Array Slot} {v : Bool} , some (v) = some o → WP g A w H → va_S A s.heap H locs → decode cX11_isIn pc = .ok (.ireturn, 1) → W p l e rm_X11_isIn s m args below meth c H locs 0 0 Q (F0 m pc ls [.int (bI v)]) := by
    intro H locs pc ls v h hP hS hd
    cases h
    exact ret hP hS hd
  unfold f_X11_isIn at h
  refine lv_lload_n hx hb dX11_isIn_0 rfl (lv_at hl 0 rfl) ?_
  refine lv_lload_n hx hb dX11_isIn_1 rfl (lv_at hl 1 rfl) ?_
  refine jx1 h (P := fun (v1 : Bool) => ∀ ls : Array Slot, lv_has ls 6 [] → W p l e rm_X11_isIn s m args below meth c H locs 0 0 Q (F0 m 18 ls [.int (bI v1)])) ?_ ?_
  · intro v1 h ls hl
    exact ret h hP hS dX11_isIn_18
  · intro J h
    refine rl_lt (tgt := 17) hx hb dX11_isIn_2 dX11_isIn_3 rfl (fun c2 => ?_) (fun c2 => ?_)
    · refine lv_iconst (v := 0) hx hb dX11_isIn_17 rfl ?_
      exact J _ (lt_ip c2 h) ls (lv_sub hl [] rfl)
    · refine lv_lload_n hx hb dX11_isIn_6 rfl (lv_at hl 0 rfl) ?_
      refine lv_lload hx hb dX11_isIn_7 (lv_at hl 2 rfl) ?_
      refine rl_gt (tgt := 17) hx hb dX11_isIn_9 dX11_isIn_10 rfl (fun c9 => ?_) (fun c9 => ?_)
      · refine lv_iconst (v := 0) hx hb dX11_isIn_17 rfl ?_
        exact J _ (lt_ip c9 (lt_in c2 h)) ls (lv_sub hl [] rfl)
      · refine lv_iconst (v := 1) hx hb dX11_isIn_13 rfl ?_
        refine lv_goto (tgt := 18) hx hb dX11_isIn_14 rfl ?_
        exact J _ (lt_in c9 (lt_in c2 h)) ls (lv_sub hl [] rfl)
abbrev rm_X11_bytesOf : Room := { frames := 0, cells := 0, slots := 0, locals := 0 }
set_option maxRecDepth 100000 in
set_option maxHeartbeats 4000000 in
theorem c_X11_bytesOf {g : gT} {l : Launch} {A : Nat → Prop} {w : va_W} {p0 : Int32} {o : Int32} (h : f_X11_bytesOf p0  = some o) : Std g l yX11_bytesOf (.code yX11_bytesOf cX11_bytesOf 3 (some .int) :: gw) rm_X11_bytesOf A [.int p0] w w (some (.int o)) := by
  refine std_i (own := RX11) (by decide +kernel) rfl (Nat.le_of_ble_eq_true rfl) ?_
  intro p e s m args below meth c Q X ret H locs hP hS ls hl
  have hx := X.1
  have hb := X.2.1
  have hl : lv_has ls 3 [(0, .int p0)] := hl
  have ret : ∀ {H : Heap} {locs : List Loc} {pc : Nat} {ls : Array Slot} {v : Int32} , some (v) = some o → WP g A w H → va_S A s.heap H locs → decode cX11_bytesOf pc = .ok (.ireturn, 1) → W p l e rm_X11_bytesOf s m args below meth c H locs 0 0 Q (F0 m pc ls [.int v]) := by
    intro H locs pc ls v h hP hS hd
    cases h
    exact ret hP hS hd
  have l4 : ∀ (n : Nat), ∀ (x0 : Int32) (x1 : Int32) (x2 : Int32) (H : Heap) (locs : List Loc) (ls : Array Slot), f_X11_bytesOf_l4    n x0 x1 x2 = some o → WP g A w H → va_S A s.heap H locs → lv_has ls 3 [(0, .int x0), (1, .int x1), (2, .int x2)] → W p l e rm_X11_bytesOf s m args below meth c H locs 0 0 Q (F0 m 4 ls []) := by
    intro  n
    induction n with
    | zero =>
      intro x0 x1 x2 H locs ls h
      exact nz_of h
    | succ n ih =>
      intro x0 x1 x2 H locs ls h hP hS hl
      rw [f_X11_bytesOf_l4] at h
      refine lv_iload_n hx hb dX11_bytesOf_4 rfl (lv_at hl 2 rfl) ?_
      refine lv_iconst (v := 4) hx hb dX11_bytesOf_5 rfl ?_
      refine lv_icmp_ge (tgt := 36) hx hb dX11_bytesOf_6 rfl (fun c6 => ?_) (fun c6 => ?_)
      · have h := br_p c6 h
        refine lv_iload_n hx hb dX11_bytesOf_36 rfl (lv_at hl 1 rfl) ?_
        exact ret h hP hS dX11_bytesOf_37
      · have h := br_n c6 h
        refine lv_iload_n hx hb dX11_bytesOf_9 rfl (lv_at hl 1 rfl) ?_
        refine lv_iload_n hx hb dX11_bytesOf_10 rfl (lv_at hl 0 rfl) ?_
        refine lv_bipush (v := 8) hx hb dX11_bytesOf_11 rfl ?_
        refine lv_iload_n hx hb dX11_bytesOf_13 rfl (lv_at hl 2 rfl) ?_
        refine lv_imul hx hb dX11_bytesOf_14 ?_
        refine lv_ishr hx hb dX11_bytesOf_15 ?_
        refine lv_sipush (v := 255) hx hb dX11_bytesOf_16 rfl ?_
        refine lv_iand hx hb dX11_bytesOf_19 ?_
        refine jx1 h (P := fun (v1 : Bool) => ∀ ls : Array Slot, lv_has ls 3 [(0, .int x0), (2, .int x2)] → W p l e rm_X11_bytesOf s m args below meth c H locs 0 0 Q (F0 m 28 ls [.int (bI v1), .int x1])) ?_ ?_
        · intro v1 h ls hl
          refine lv_iadd hx hb dX11_bytesOf_28 ?_
          refine lv_topi (fun v2 ev2 => ?_)
          have h := lt_at ev2 h
          refine lv_istore_n (lv' := [(1, .int v2), (0, .int x0), (2, .int x2)]) hx hb dX11_bytesOf_29 rfl hl (by decide) rfl (fun ls hl => ?_)
          obtain ⟨v3, ev3⟩ : ∃ z : Int32, z = (x2 + 1) := ⟨_, rfl⟩
          have h := lt_at ev3 h
          refine lv_iinc (v := v3) (lv' := [(2, .int v3), (1, .int v2), (0, .int x0)]) hx hb dX11_bytesOf_30 hl (k := 2) rfl (by rw [ev3]; rfl) (by decide) rfl (fun ls hl => ?_)
          refine lv_goto (tgt := 4) hx hb dX11_bytesOf_33 rfl ?_
          exact ih x0 v2 v3 _ _ _ h hP hS (lv_sub hl [2, 1, 0] rfl)
        · intro J h
          refine lv_if_ne (tgt := 27) hx hb dX11_bytesOf_20 rfl (fun c20 => ?_) (fun c20 => ?_)
          · refine lv_iconst (v := 1) hx hb dX11_bytesOf_27 rfl ?_
            exact J _ (lt_in c20 h) ls (lv_sub hl [0, 2] rfl)
          · refine lv_iconst (v := 0) hx hb dX11_bytesOf_23 rfl ?_
            refine lv_goto (tgt := 28) hx hb dX11_bytesOf_24 rfl ?_
            exact J _ (lt_ip c20 h) ls (lv_sub hl [0, 2] rfl)
  unfold f_X11_bytesOf at h
  refine lv_iconst (v := 0) hx hb dX11_bytesOf_0 rfl ?_
  refine lv_istore_n (lv' := [(1, .int 0), (0, .int p0)]) hx hb dX11_bytesOf_1 rfl hl (by decide) rfl (fun ls hl => ?_)
  refine lv_iconst (v := 0) hx hb dX11_bytesOf_2 rfl ?_
  refine lv_istore_n (lv' := [(2, .int 0), (1, .int 0), (0, .int p0)]) hx hb dX11_bytesOf_3 rfl hl (by decide) rfl (fun ls hl => ?_)
  exact l4  FU p0 (0 : Int32) (0 : Int32) _ _ _ h hP hS (lv_sub hl [2, 1, 0] rfl)
abbrev rm_X11_brings : Room := { frames := 0, cells := 0, slots := 0, locals := 0 }
set_option maxRecDepth 100000 in
set_option maxHeartbeats 4000000 in
theorem c_X11_brings {g : gT} {l : Launch} {A : Nat → Prop} {q : Nat → Nat} {m_thrown : Int32} {m_length : Int32} {m_at : Int32} {m_fault : Int32} {m_toldWords : Int32} {m_orders : Int32} {m_value : Int32} {m_hasUnit : Bool} {m_places : Int32} {m_clocks : Int32} {m_held : Bool} {m_x : Int64} {m_y : Int64} {m_z : Int64} {m_first : Int64} {m_second : Int64} {m_aside : Int32} {m_jobs : Int32} {m_jobsImage : Int32} {m_clocksImage : Int32} {m_heldImage : Bool} {m_hasImage : Bool} {m_tape : Nat → Int32} {m_read : Nat → Int32} {m_order : Nat → Int32} {m_width : Nat → Int32} {m_guard : Nat → Int32} {m_points : Nat → Int32} {m_stages : Nat → Int32} {m_gain : Nat → Int32} {m_undo : Nat → Int32} {m_near : Nat → Bool} {m_quarter : Nat → Int64} {m_ln : Nat → Int64} {m_angle : Nat → Int64} {m_shift : Nat → Int32} {m_digit : Nat → Int32} {m_refused : Nat → Int32} {m_job : Nat → Int32} {m_jobKept : Nat → Int32} {m_result : Nat → Int32} {m_resultKept : Nat → Int32} {m_trace : Nat → Int64} {m_traceKept : Nat → Int64} {m_jobImage : Nat → Int32} {m_resultImage : Nat → Int32} {m_traceImage : Nat → Int64} {p0 : Int32} {o : Int32 × (Nat → Int32)} (h : f_X11_brings p0 m_length m_tape = some o) : Std g l yX11_brings (.code yX11_brings cX11_brings 4 none :: gw) rm_X11_brings A [.ref (q 0), .int p0] (wM g q m_thrown m_length m_at m_fault m_toldWords m_orders m_value m_hasUnit m_places m_clocks m_held m_x m_y m_z m_first m_second m_aside m_jobs m_jobsImage m_clocksImage m_heldImage m_hasImage m_tape m_read m_order m_width m_guard m_points m_stages m_gain m_undo m_near m_quarter m_ln m_angle m_shift m_digit m_refused m_job m_jobKept m_result m_resultKept m_trace m_traceKept m_jobImage m_resultImage m_traceImage) (wM g q m_thrown o.1 m_at m_fault m_toldWords m_orders m_value m_hasUnit m_places m_clocks m_held m_x m_y m_z m_first m_second m_aside m_jobs m_jobsImage m_clocksImage m_heldImage m_hasImage o.2 m_read m_order m_width m_guard m_points m_stages m_gain m_undo m_near m_quarter m_ln m_angle m_shift m_digit m_refused m_job m_jobKept m_result m_resultKept m_trace m_traceKept m_jobImage m_resultImage m_traceImage) none := by
  refine std_v (own := RX11) (by decide +kernel) rfl (Nat.le_of_ble_eq_true rfl) ?_
  intro p e s m args below meth c Q X ret H locs hP hS ls hl
  have hx := X.1
  have hb := X.2.1
  have hl : lv_has ls 4 [(0, .ref (q 0)), (1, .int p0)] := hl
  have ret : ∀ {H : Heap} {locs : List Loc} {pc : Nat} {ls : Array Slot} {m_length : Int32} {m_tape : Nat → Int32}, some (m_length, m_tape) = some o → WP g A (wM g q m_thrown m_length m_at m_fault m_toldWords m_orders m_value m_hasUnit m_places m_clocks m_held m_x m_y m_z m_first m_second m_aside m_jobs m_jobsImage m_clocksImage m_heldImage m_hasImage m_tape m_read m_order m_width m_guard m_points m_stages m_gain m_undo m_near m_quarter m_ln m_angle m_shift m_digit m_refused m_job m_jobKept m_result m_resultKept m_trace m_traceKept m_jobImage m_resultImage m_traceImage) H → va_S A s.heap H locs → decode cX11_brings pc = .ok (.return_, 1) → W p l e rm_X11_brings s m args below meth c H locs 0 0 Q (F0 m pc ls []) := by
    intro H locs pc ls m_length m_tape h hP hS hd
    cases h
    exact ret hP hS hd
  have b43 : ∀ (k3 : Int32 → Int32 → Int32 → (Nat → Int32) → Option (Int32 × (Nat → Int32))) (hk3 : ∀ (x1 : Int32) (x2 : Int32) (m_length : Int32) (m_tape : Nat → Int32) (H : Heap) (locs : List Loc) (ls : Array Slot), k3 x1 x2 m_length m_tape = some o → WP g A (wM g q m_thrown m_length m_at m_fault m_toldWords m_orders m_value m_hasUnit m_places m_clocks m_held m_x m_y m_z m_first m_second m_aside m_jobs m_jobsImage m_clocksImage m_heldImage m_hasImage m_tape m_read m_order m_width m_guard m_points m_stages m_gain m_undo m_near m_quarter m_ln m_angle m_shift m_digit m_refused m_job m_jobKept m_result m_resultKept m_trace m_traceKept m_jobImage m_resultImage m_traceImage) H → va_S A s.heap H locs → lv_has ls 4 [(0, .ref (q 0)), (1, .int x1), (2, .int x2)] → W p l e rm_X11_brings s m args below meth c H locs 0 0 Q (F0 m 3 ls [])) , ∀ (x1 : Int32) (x2 : Int32) (m_length : Int32) (m_tape : Nat → Int32) (H : Heap) (locs : List Loc) (ls : Array Slot), f_X11_brings_b43   k3 x1 x2 m_length m_tape = some o → WP g A (wM g q m_thrown m_length m_at m_fault m_toldWords m_orders m_value m_hasUnit m_places m_clocks m_held m_x m_y m_z m_first m_second m_aside m_jobs m_jobsImage m_clocksImage m_heldImage m_hasImage m_tape m_read m_order m_width m_guard m_points m_stages m_gain m_undo m_near m_quarter m_ln m_angle m_shift m_digit m_refused m_job m_jobKept m_result m_resultKept m_trace m_traceKept m_jobImage m_resultImage m_traceImage) H → va_S A s.heap H locs → lv_has ls 4 [(0, .ref (q 0)), (1, .int x1), (2, .int x2)] → W p l e rm_X11_brings s m args below meth c H locs 0 0 Q (F0 m 43 ls []) := by
    intro k3 hk3 x1 x2 m_length m_tape H locs ls h hP hS hl
    unfold f_X11_brings_b43 at h
    obtain ⟨v3, ev3⟩ : ∃ z : Int32, z = (x2 + (-8)) := ⟨_, rfl⟩
    have h := lt_at ev3 h
    refine lv_iinc (v := v3) (lv' := [(2, .int v3), (0, .ref (q 0)), (1, .int x1)]) hx hb dX11_brings_43 hl (k := 2) rfl (by rw [ev3]; rfl) (by decide) rfl (fun ls hl => ?_)
    refine lv_goto (tgt := 3) hx hb dX11_brings_46 rfl ?_
    exact hk3 x1 v3 m_length m_tape _ _ _ h hP hS (lv_sub hl [1, 2, 0] rfl)
  have l3 : ∀ (n : Nat), ∀ (x1 : Int32) (x2 : Int32) (m_length : Int32) (m_tape : Nat → Int32) (H : Heap) (locs : List Loc) (ls : Array Slot), f_X11_brings_l3    n x1 x2 m_length m_tape = some o → WP g A (wM g q m_thrown m_length m_at m_fault m_toldWords m_orders m_value m_hasUnit m_places m_clocks m_held m_x m_y m_z m_first m_second m_aside m_jobs m_jobsImage m_clocksImage m_heldImage m_hasImage m_tape m_read m_order m_width m_guard m_points m_stages m_gain m_undo m_near m_quarter m_ln m_angle m_shift m_digit m_refused m_job m_jobKept m_result m_resultKept m_trace m_traceKept m_jobImage m_resultImage m_traceImage) H → va_S A s.heap H locs → lv_has ls 4 [(0, .ref (q 0)), (1, .int x1), (2, .int x2)] → W p l e rm_X11_brings s m args below meth c H locs 0 0 Q (F0 m 3 ls []) := by
    intro  n
    induction n with
    | zero =>
      intro x1 x2 m_length m_tape H locs ls h
      exact nz_of h
    | succ n ih =>
      intro x1 x2 m_length m_tape H locs ls h hP hS hl
      rw [f_X11_brings_l3] at h
      refine lv_iload_n hx hb dX11_brings_3 rfl (lv_at hl 2 rfl) ?_
      refine lv_if_lt (tgt := 49) hx hb dX11_brings_4 rfl (fun c4 => ?_) (fun c4 => ?_)
      · have h := br_p c4 h
        exact ret h hP hS dX11_brings_49
      · have h := br_n c4 h
        refine lv_iload_n hx hb dX11_brings_7 rfl (lv_at hl 1 rfl) ?_
        refine lv_iload_n hx hb dX11_brings_8 rfl (lv_at hl 2 rfl) ?_
        refine lv_ishr hx hb dX11_brings_9 ?_
        refine lv_sipush (v := 255) hx hb dX11_brings_10 rfl ?_
        refine lv_iand hx hb dX11_brings_13 ?_
        refine lv_topi (fun v1 ev1 => ?_)
        have h := lt_at ev1 h
        refine lv_istore_n (lv' := [(3, .int v1), (0, .ref (q 0)), (1, .int x1), (2, .int x2)]) hx hb dX11_brings_14 rfl hl (by decide) rfl (fun ls hl => ?_)
        refine lv_iload_n hx hb dX11_brings_15 rfl (lv_at hl 0 rfl) ?_
        refine lv_if_ne (tgt := 22) hx hb dX11_brings_16 rfl (fun c16 => ?_) (fun c16 => ?_)
        · have h := br_n c16 h
          refine lv_aload_n hx hb dX11_brings_22 rfl (lv_at hl 1 rfl) ?_
          refine gf_X11_9_M_0 X hP dX11_brings_23 ?_
          refine lv_aload_n hx hb dX11_brings_26 rfl (lv_at hl 1 rfl) ?_
          refine gf_X11_13_M_0 X hP dX11_brings_27 ?_
          refine lv_iload_n hx hb dX11_brings_30 rfl (lv_at hl 0 rfl) ?_
          refine lv_i2b hx hb dX11_brings_31 rfl ?_
          obtain ⟨hi32, h⟩ := gv_of h
          refine as_M_1 (v0 := v1.toInt8.toInt32) X hP hS hi32 dX11_brings_32 (fun H locs hP hS => ?_)
          refine lv_aload_n hx hb dX11_brings_33 rfl (lv_at hl 1 rfl) ?_
          refine lv_dup hx hb dX11_brings_34 rfl ?_
          refine gf_X11_13_M_0 X hP dX11_brings_35 ?_
          refine lv_iconst (v := 1) hx hb dX11_brings_38 rfl ?_
          refine lv_iadd hx hb dX11_brings_39 ?_
          refine lv_topi (fun v2 ev2 => ?_)
          have h := lt_at ev2 h
          refine pf_X11_13_M_0 (v0 := v2) X hP hS dX11_brings_40 (fun H locs hP hS => ?_)
          exact b43 (f_X11_brings_l3    n) ih  x1 x2 v2 (upd m_tape (m_length).toNatClampNeg (vp_nar .byte v1.toInt8.toInt32)) _ _ _ h hP hS (lv_sub hl [1, 2, 3] rfl)
        · have h := br_p c16 h
          refine lv_goto (tgt := 43) hx hb dX11_brings_19 rfl ?_
          exact b43 (f_X11_brings_l3    n) ih  x1 x2 m_length m_tape _ _ _ h hP hS (lv_sub hl [1, 2, 3] rfl)
  unfold f_X11_brings at h
  refine lv_bipush (v := 24) hx hb dX11_brings_0 rfl ?_
  refine lv_istore_n (lv' := [(2, .int 24), (0, .ref (q 0)), (1, .int p0)]) hx hb dX11_brings_2 rfl hl (by decide) rfl (fun ls hl => ?_)
  exact l3  FU p0 (24 : Int32) m_length m_tape _ _ _ h hP hS (lv_sub hl [1, 2, 0] rfl)
