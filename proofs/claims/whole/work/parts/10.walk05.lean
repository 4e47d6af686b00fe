abbrev rm_X10_end : Room := { frames := 0, cells := 0, slots := 0, locals := 0 }
set_option maxRecDepth 100000 in
set_option maxHeartbeats 4000000 in
theorem c_X10_end {g : gT} {l : Launch} {A : Nat → Prop} {q : Nat → Nat} {z_hasUnit : Bool} {z_hasImage : Bool} {t_length : Int32} {t_bytes : Nat → Int32} {x_width : Int32} {x_guard : Int32} {x_stages : Int32} {x_fold : Int32} {x_pipe : Bool} {x_near : Bool} {s_at : Int32} {o_lines : Int32} {n_at : Int32} {o_kinds : Nat → Int32} {o_operands : Nat → Int32} {o_ties : Nat → Int32} {u_width : Int32} {u_guard : Int32} {u_bits : Int32} {u_stages : Int32} {u_places : Int32} {u_near : Bool} {u_quarter : Int64} {u_eighth : Int64} {u_ln : Int64} {u_shifts : Nat → Int32} {u_angles : Nat → Int64} {u_gains : Nat → Int64} {u_undos : Nat → Int64} {u_digits : Nat → Int32} {r_x : Int64} {r_y : Int64} {r_z : Int64} {r_upBits : Int32} {r_steps : Int32} {r_first : Int64} {r_second : Int64} {v_width : Int32} {v_guard : Int32} {v_bits : Int32} {v_stages : Int32} {v_places : Int32} {v_near : Bool} {v_quarter : Int64} {v_eighth : Int64} {v_ln : Int64} {v_shifts : Nat → Int32} {v_angles : Nat → Int64} {v_gains : Nat → Int64} {v_undos : Nat → Int64} {v_digits : Nat → Int32} {k_x : Int64} {k_y : Int64} {k_z : Int64} {k_upBits : Int32} {k_steps : Int32} {k_first : Int64} {k_second : Int64} {b_jobs : Int32} {b_over : Int32} {b_clocks : Int32} {b_held : Bool} {b_kinds : Nat → Int32} {b_operands : Nat → Int32} {b_ties : Nat → Int32} {b_states : Nat → Int32} {b_gone : Nat → Int32} {b_toldIn : Nat → Int32} {b_broughtIn : Nat → Int32} {b_doneIn : Nat → Int32} {c_jobs : Int32} {c_over : Int32} {c_clocks : Int32} {c_held : Bool} {c_kinds : Nat → Int32} {c_operands : Nat → Int32} {c_ties : Nat → Int32} {c_states : Nat → Int32} {c_gone : Nat → Int32} {c_toldIn : Nat → Int32} {c_broughtIn : Nat → Int32} {c_doneIn : Nat → Int32} {d_jobs : Int32} {d_over : Int32} {d_clocks : Int32} {d_held : Bool} {d_kinds : Nat → Int32} {d_operands : Nat → Int32} {d_ties : Nat → Int32} {d_states : Nat → Int32} {d_gone : Nat → Int32} {d_toldIn : Nat → Int32} {d_broughtIn : Nat → Int32} {d_doneIn : Nat → Int32} {z_refusals : Nat → Int32} {p0 : Int32} {o : Bool × Int32} (h : f_X10_end p0 t_length = some o) : Std g l yX10_end (.code yX10_end cX10_end 2 (some .boolean) :: gw) rm_X10_end A [.ref (q 0), .int p0] (wX g q z_hasUnit z_hasImage t_length t_bytes x_width x_guard x_stages x_fold x_pipe x_near s_at o_lines n_at o_kinds o_operands o_ties u_width u_guard u_bits u_stages u_places u_near u_quarter u_eighth u_ln u_shifts u_angles u_gains u_undos u_digits r_x r_y r_z r_upBits r_steps r_first r_second v_width v_guard v_bits v_stages v_places v_near v_quarter v_eighth v_ln v_shifts v_angles v_gains v_undos v_digits k_x k_y k_z k_upBits k_steps k_first k_second b_jobs b_over b_clocks b_held b_kinds b_operands b_ties b_states b_gone b_toldIn b_broughtIn b_doneIn c_jobs c_over c_clocks c_held c_kinds c_operands c_ties c_states c_gone c_toldIn c_broughtIn c_doneIn d_jobs d_over d_clocks d_held d_kinds d_operands d_ties d_states d_gone d_toldIn d_broughtIn d_doneIn z_refusals) (wX g q z_hasUnit z_hasImage o.2 t_bytes x_width x_guard x_stages x_fold x_pipe x_near s_at o_lines n_at o_kinds o_operands o_ties u_width u_guard u_bits u_stages u_places u_near u_quarter u_eighth u_ln u_shifts u_angles u_gains u_undos u_digits r_x r_y r_z r_upBits r_steps r_first r_second v_width v_guard v_bits v_stages v_places v_near v_quarter v_eighth v_ln v_shifts v_angles v_gains v_undos v_digits k_x k_y k_z k_upBits k_steps k_first k_second b_jobs b_over b_clocks b_held b_kinds b_operands b_ties b_states b_gone b_toldIn b_broughtIn b_doneIn c_jobs c_over c_clocks c_held c_kinds c_operands c_ties c_states c_gone c_toldIn c_broughtIn c_doneIn d_jobs d_over d_clocks d_held d_kinds d_operands d_ties d_states d_gone d_toldIn d_broughtIn d_doneIn z_refusals) (some (.int (bI o.1))) := by
  refine std_z (own := RX10) (by decide +kernel) rfl (Nat.le_of_ble_eq_true rfl) ?_
  intro p e s m args below meth c Q X ret H locs hP hS ls hl
  have hx := X.1
  have hb := X.2.1
  have hl : lv_has ls 2 [(0, .ref (q 0)), (1, .int p0)] := hl
  have ret : ∀ {H : Heap} {locs : List Loc} {pc : Nat} {ls : Array Slot} {v : Bool} {t_length : Int32}, some (v, t_length) = some o → WP g A (wX g q z_hasUnit z_hasImage t_length t_bytes x_width x_guard x_stages x_fold x_pipe x_near s_at o_lines n_at o_kinds o_operands o_ties u_width u_guard u_bits u_stages u_places u_near u_quarter u_eighth u_ln u_shifts u_angles u_gains u_undos u_digits r_x r_y r_z r_upBits r_steps r_first r_second v_width v_guard v_bits v_stages v_places v_near v_quarter v_eighth v_ln v_shifts v_angles v_gains v_undos v_digits k_x k_y k_z k_upBits k_steps k_first k_second b_jobs b_over b_clocks b_held b_kinds b_operands b_ties b_states b_gone b_toldIn b_broughtIn b_doneIn c_jobs c_over c_clocks c_held c_kinds c_operands c_ties c_states c_gone c_toldIn c_broughtIn c_doneIn d_jobs d_over d_clocks d_held d_kinds d_operands d_ties d_states d_gone d_toldIn d_broughtIn d_doneIn z_refusals) H → va_S A s.heap H locs → decode cX10_end pc = .ok (.ireturn, 1) → W p l e rm_X10_end s m args below meth c H locs 0 0 Q (F0 m pc ls [.int (bI v)]) := by
    intro H locs pc ls v t_length h hP hS hd
    cases h
    exact ret hP hS hd
  have b15 : ∀ (t_length : Int32) (H : Heap) (locs : List Loc) (ls : Array Slot), f_X10_end_b15    t_length = some o → WP g A (wX g q z_hasUnit z_hasImage t_length t_bytes x_width x_guard x_stages x_fold x_pipe x_near s_at o_lines n_at o_kinds o_operands o_ties u_width u_guard u_bits u_stages u_places u_near u_quarter u_eighth u_ln u_shifts u_angles u_gains u_undos u_digits r_x r_y r_z r_upBits r_steps r_first r_second v_width v_guard v_bits v_stages v_places v_near v_quarter v_eighth v_ln v_shifts v_angles v_gains v_undos v_digits k_x k_y k_z k_upBits k_steps k_first k_second b_jobs b_over b_clocks b_held b_kinds b_operands b_ties b_states b_gone b_toldIn b_broughtIn b_doneIn c_jobs c_over c_clocks c_held c_kinds c_operands c_ties c_states c_gone c_toldIn c_broughtIn c_doneIn d_jobs d_over d_clocks d_held d_kinds d_operands d_ties d_states d_gone d_toldIn d_broughtIn d_doneIn z_refusals) H → va_S A s.heap H locs → lv_has ls 2 [] → W p l e rm_X10_end s m args below meth c H locs 0 0 Q (F0 m 15 ls []) := by
    intro  t_length H locs ls h hP hS hl
    unfold f_X10_end_b15 at h
    refine lv_iconst (v := 0) hx hb dX10_end_15 rfl ?_
    exact ret h hP hS dX10_end_16
  unfold f_X10_end at h
  refine lv_iload_n hx hb dX10_end_0 rfl (lv_at hl 1 rfl) ?_
  refine lv_if_lt (tgt := 15) hx hb dX10_end_1 rfl (fun c1 => ?_) (fun c1 => ?_)
  · have h := br_p c1 h
    exact b15   t_length _ _ _ h hP hS (lv_sub hl [] rfl)
  · have h := br_n c1 h
    refine lv_iload_n hx hb dX10_end_4 rfl (lv_at hl 1 rfl) ?_
    refine lv_aload_n hx hb dX10_end_5 rfl (lv_at hl 0 rfl) ?_
    refine gf_X10_12_X_0 X hP dX10_end_6 ?_
    refine gf_X10_78_X_1 X hP dX10_end_9 ?_
    refine lv_icmp_le (tgt := 17) hx hb dX10_end_12 rfl (fun c12 => ?_) (fun c12 => ?_)
    · have h := br_p c12 h
      refine lv_aload_n hx hb dX10_end_17 rfl (lv_at hl 0 rfl) ?_
      refine gf_X10_12_X_0 X hP dX10_end_18 ?_
      refine lv_iload_n hx hb dX10_end_21 rfl (lv_at hl 1 rfl) ?_
      refine pf_X10_78_X_1 (v0 := p0) X hP hS dX10_end_22 (fun H locs hP hS => ?_)
      refine lv_iconst (v := 1) hx hb dX10_end_25 rfl ?_
      exact ret h hP hS dX10_end_26
    · have h := br_n c12 h
      exact b15   t_length _ _ _ h hP hS (lv_sub hl [] rfl)
abbrev rm_X10_fault : Room := { frames := 7, cells := 0, slots := 0, locals := 159 }
set_option maxRecDepth 100000 in
set_option maxHeartbeats 4000000 in
theorem c_X10_fault {g : gT} {l : Launch} {A : Nat → Prop} {q : Nat → Nat} {z_hasUnit : Bool} {z_hasImage : Bool} {t_length : Int32} {t_bytes : Nat → Int32} {x_width : Int32} {x_guard : Int32} {x_stages : Int32} {x_fold : Int32} {x_pipe : Bool} {x_near : Bool} {s_at : Int32} {o_lines : Int32} {n_at : Int32} {o_kinds : Nat → Int32} {o_operands : Nat → Int32} {o_ties : Nat → Int32} {u_width : Int32} {u_guard : Int32} {u_bits : Int32} {u_stages : Int32} {u_places : Int32} {u_near : Bool} {u_quarter : Int64} {u_eighth : Int64} {u_ln : Int64} {u_shifts : Nat → Int32} {u_angles : Nat → Int64} {u_gains : Nat → Int64} {u_undos : Nat → Int64} {u_digits : Nat → Int32} {r_x : Int64} {r_y : Int64} {r_z : Int64} {r_upBits : Int32} {r_steps : Int32} {r_first : Int64} {r_second : Int64} {v_width : Int32} {v_guard : Int32} {v_bits : Int32} {v_stages : Int32} {v_places : Int32} {v_near : Bool} {v_quarter : Int64} {v_eighth : Int64} {v_ln : Int64} {v_shifts : Nat → Int32} {v_angles : Nat → Int64} {v_gains : Nat → Int64} {v_undos : Nat → Int64} {v_digits : Nat → Int32} {k_x : Int64} {k_y : Int64} {k_z : Int64} {k_upBits : Int32} {k_steps : Int32} {k_first : Int64} {k_second : Int64} {b_jobs : Int32} {b_over : Int32} {b_clocks : Int32} {b_held : Bool} {b_kinds : Nat → Int32} {b_operands : Nat → Int32} {b_ties : Nat → Int32} {b_states : Nat → Int32} {b_gone : Nat → Int32} {b_toldIn : Nat → Int32} {b_broughtIn : Nat → Int32} {b_doneIn : Nat → Int32} {c_jobs : Int32} {c_over : Int32} {c_clocks : Int32} {c_held : Bool} {c_kinds : Nat → Int32} {c_operands : Nat → Int32} {c_ties : Nat → Int32} {c_states : Nat → Int32} {c_gone : Nat → Int32} {c_toldIn : Nat → Int32} {c_broughtIn : Nat → Int32} {c_doneIn : Nat → Int32} {d_jobs : Int32} {d_over : Int32} {d_clocks : Int32} {d_held : Bool} {d_kinds : Nat → Int32} {d_operands : Nat → Int32} {d_ties : Nat → Int32} {d_states : Nat → Int32} {d_gone : Nat → Int32} {d_toldIn : Nat → Int32} {d_broughtIn : Nat → Int32} {d_doneIn : Nat → Int32} {z_refusals : Nat → Int32} {p0 : Int32} {o : Int32 × Int32 × Int32 × Int32 × Int32 × Bool × Bool × Int32 × Int32 × Int32 × (Nat → Int32) × (Nat → Int32) × (Nat → Int32)} (h : f_X10_fault p0 t_length t_bytes x_width x_guard x_stages x_fold x_pipe x_near s_at o_lines n_at o_kinds o_operands o_ties = some o) : Std g l yX10_fault (.code yX10_fault cX10_fault 2 (some .int) :: gw) rm_X10_fault A [.ref (q 0), .int p0] (wX g q z_hasUnit z_hasImage t_length t_bytes x_width x_guard x_stages x_fold x_pipe x_near s_at o_lines n_at o_kinds o_operands o_ties u_width u_guard u_bits u_stages u_places u_near u_quarter u_eighth u_ln u_shifts u_angles u_gains u_undos u_digits r_x r_y r_z r_upBits r_steps r_first r_second v_width v_guard v_bits v_stages v_places v_near v_quarter v_eighth v_ln v_shifts v_angles v_gains v_undos v_digits k_x k_y k_z k_upBits k_steps k_first k_second b_jobs b_over b_clocks b_held b_kinds b_operands b_ties b_states b_gone b_toldIn b_broughtIn b_doneIn c_jobs c_over c_clocks c_held c_kinds c_operands c_ties c_states c_gone c_toldIn c_broughtIn c_doneIn d_jobs d_over d_clocks d_held d_kinds d_operands d_ties d_states d_gone d_toldIn d_broughtIn d_doneIn z_refusals) (wX g q z_hasUnit z_hasImage t_length t_bytes o.2.1 o.2.2.1 o.2.2.2.1 o.2.2.2.2.1 o.2.2.2.2.2.1 o.2.2.2.2.2.2.1 o.2.2.2.2.2.2.2.1 o.2.2.2.2.2.2.2.2.1 o.2.2.2.2.2.2.2.2.2.1 o.2.2.2.2.2.2.2.2.2.2.1 o.2.2.2.2.2.2.2.2.2.2.2.1 o.2.2.2.2.2.2.2.2.2.2.2.2 u_width u_guard u_bits u_stages u_places u_near u_quarter u_eighth u_ln u_shifts u_angles u_gains u_undos u_digits r_x r_y r_z r_upBits r_steps r_first r_second v_width v_guard v_bits v_stages v_places v_near v_quarter v_eighth v_ln v_shifts v_angles v_gains v_undos v_digits k_x k_y k_z k_upBits k_steps k_first k_second b_jobs b_over b_clocks b_held b_kinds b_operands b_ties b_states b_gone b_toldIn b_broughtIn b_doneIn c_jobs c_over c_clocks c_held c_kinds c_operands c_ties c_states c_gone c_toldIn c_broughtIn c_doneIn d_jobs d_over d_clocks d_held d_kinds d_operands d_ties d_states d_gone d_toldIn d_broughtIn d_doneIn z_refusals) (some (.int o.1)) := by
  refine std_i (own := RX10) (by decide +kernel) rfl (Nat.le_of_ble_eq_true rfl) ?_
  intro p e s m args below meth c Q X ret H locs hP hS ls hl
  have hx := X.1
  have hb := X.2.1
  have hl : lv_has ls 2 [(0, .ref (q 0)), (1, .int p0)] := hl
  have ret : ∀ {H : Heap} {locs : List Loc} {pc : Nat} {ls : Array Slot} {v : Int32} {x_width : Int32} {x_guard : Int32} {x_stages : Int32} {x_fold : Int32} {x_pipe : Bool} {x_near : Bool} {s_at : Int32} {o_lines : Int32} {n_at : Int32} {o_kinds : Nat → Int32} {o_operands : Nat → Int32} {o_ties : Nat → Int32}, some (v, x_width, x_guard, x_stages, x_fold, x_pipe, x_near, s_at, o_lines, n_at, o_kinds, o_operands, o_ties) = some o → WP g A (wX g q z_hasUnit z_hasImage t_length t_bytes x_width x_guard x_stages x_fold x_pipe x_near s_at o_lines n_at o_kinds o_operands o_ties u_width u_guard u_bits u_stages u_places u_near u_quarter u_eighth u_ln u_shifts u_angles u_gains u_undos u_digits r_x r_y r_z r_upBits r_steps r_first r_second v_width v_guard v_bits v_stages v_places v_near v_quarter v_eighth v_ln v_shifts v_angles v_gains v_undos v_digits k_x k_y k_z k_upBits k_steps k_first k_second b_jobs b_over b_clocks b_held b_kinds b_operands b_ties b_states b_gone b_toldIn b_broughtIn b_doneIn c_jobs c_over c_clocks c_held c_kinds c_operands c_ties c_states c_gone c_toldIn c_broughtIn c_doneIn d_jobs d_over d_clocks d_held d_kinds d_operands d_ties d_states d_gone d_toldIn d_broughtIn d_doneIn z_refusals) H → va_S A s.heap H locs → decode cX10_fault pc = .ok (.ireturn, 1) → W p l e rm_X10_fault s m args below meth c H locs 0 0 Q (F0 m pc ls [.int v]) := by
    intro H locs pc ls v x_width x_guard x_stages x_fold x_pipe x_near s_at o_lines n_at o_kinds o_operands o_ties h hP hS hd
    cases h
    exact ret hP hS hd
  unfold f_X10_fault at h
  refine lv_iload_n hx hb dX10_fault_0 rfl (lv_at hl 1 rfl) ?_
  refine lv_if_ne (tgt := 12) hx hb dX10_fault_1 rfl (fun c1 => ?_) (fun c1 => ?_)
  · have h := br_n c1 h
    refine lv_iload_n hx hb dX10_fault_12 rfl (lv_at hl 1 rfl) ?_
    refine lv_iconst (v := 1) hx hb dX10_fault_13 rfl ?_
    refine lv_icmp_ne (tgt := 27) hx hb dX10_fault_14 rfl (fun c14 => ?_) (fun c14 => ?_)
    · have h := br_n c14 h
      refine lv_bipush (v := (-2)) hx hb dX10_fault_27 rfl ?_
      exact ret h hP hS dX10_fault_29
    · have h := br_p c14 h
      refine lv_aload_n hx hb dX10_fault_17 rfl (lv_at hl 0 rfl) ?_
      refine gf_X10_30_X_0 X hP dX10_fault_18 ?_
      obtain ⟨o1, hco1, h⟩ := bd_of h
      obtain ⟨hF, hFA⟩ := fo_X_OText_5 hP
      refine kVN (rest := []) X dX10_fault_21 wd_3_29 mw_X3_read wd_3_31 wp_2_7 hF (k0 := 0) rfl rfl rfl hS hFA (c_X3_read hco1) rfl hl.1 rfl (Nat.le_of_ble_eq_true rfl) rfl rfl ⟨Nat.le_of_ble_eq_true rfl, Nat.le_of_ble_eq_true rfl⟩ (fun H locs hF1 _ hk hS => ?_)
      have hP := un_X_OText_5 hP hk hF1
      refine W.eq (g2 := F0 m 24 ls [.int o1.1]) rfl ?_
      refine lv_goto (tgt := 29) hx hb dX10_fault_24 rfl ?_
      exact ret h hP hS dX10_fault_29
  · have h := br_p c1 h
    refine lv_aload_n hx hb dX10_fault_4 rfl (lv_at hl 0 rfl) ?_
    refine gf_X10_23_X_0 X hP dX10_fault_5 ?_
    obtain ⟨o2, hco2, h⟩ := bd_of h
    obtain ⟨hF, hFA⟩ := fo_X_UText_3 hP
    refine kVN (rest := []) X dX10_fault_8 wd_2_150 mw_X9_read wd_2_152 wp_1_8 hF (k0 := 0) rfl rfl rfl hS hFA (c_X9_read hco2) rfl hl.1 rfl (Nat.le_of_ble_eq_true rfl) rfl rfl ⟨Nat.le_of_ble_eq_true rfl, Nat.le_of_ble_eq_true rfl⟩ (fun H locs hF1 _ hk hS => ?_)
    have hP := un_X_UText_3 hP hk hF1
    refine W.eq (g2 := F0 m 11 ls [.int o2.1]) rfl ?_
    exact ret h hP hS dX10_fault_11
abbrev rm_X10_unit : Room := { frames := 7, cells := 0, slots := 0, locals := 157 }
set_option maxRecDepth 100000 in
set_option maxHeartbeats 4000000 in
theorem c_X10_unit {g : gT} {l : Launch} {A : Nat → Prop} {q : Nat → Nat} {z_hasUnit : Bool} {z_hasImage : Bool} {t_length : Int32} {t_bytes : Nat → Int32} {x_width : Int32} {x_guard : Int32} {x_stages : Int32} {x_fold : Int32} {x_pipe : Bool} {x_near : Bool} {s_at : Int32} {o_lines : Int32} {n_at : Int32} {o_kinds : Nat → Int32} {o_operands : Nat → Int32} {o_ties : Nat → Int32} {u_width : Int32} {u_guard : Int32} {u_bits : Int32} {u_stages : Int32} {u_places : Int32} {u_near : Bool} {u_quarter : Int64} {u_eighth : Int64} {u_ln : Int64} {u_shifts : Nat → Int32} {u_angles : Nat → Int64} {u_gains : Nat → Int64} {u_undos : Nat → Int64} {u_digits : Nat → Int32} {r_x : Int64} {r_y : Int64} {r_z : Int64} {r_upBits : Int32} {r_steps : Int32} {r_first : Int64} {r_second : Int64} {v_width : Int32} {v_guard : Int32} {v_bits : Int32} {v_stages : Int32} {v_places : Int32} {v_near : Bool} {v_quarter : Int64} {v_eighth : Int64} {v_ln : Int64} {v_shifts : Nat → Int32} {v_angles : Nat → Int64} {v_gains : Nat → Int64} {v_undos : Nat → Int64} {v_digits : Nat → Int32} {k_x : Int64} {k_y : Int64} {k_z : Int64} {k_upBits : Int32} {k_steps : Int32} {k_first : Int64} {k_second : Int64} {b_jobs : Int32} {b_over : Int32} {b_clocks : Int32} {b_held : Bool} {b_kinds : Nat → Int32} {b_operands : Nat → Int32} {b_ties : Nat → Int32} {b_states : Nat → Int32} {b_gone : Nat → Int32} {b_toldIn : Nat → Int32} {b_broughtIn : Nat → Int32} {b_doneIn : Nat → Int32} {c_jobs : Int32} {c_over : Int32} {c_clocks : Int32} {c_held : Bool} {c_kinds : Nat → Int32} {c_operands : Nat → Int32} {c_ties : Nat → Int32} {c_states : Nat → Int32} {c_gone : Nat → Int32} {c_toldIn : Nat → Int32} {c_broughtIn : Nat → Int32} {c_doneIn : Nat → Int32} {d_jobs : Int32} {d_over : Int32} {d_clocks : Int32} {d_held : Bool} {d_kinds : Nat → Int32} {d_operands : Nat → Int32} {d_ties : Nat → Int32} {d_states : Nat → Int32} {d_gone : Nat → Int32} {d_toldIn : Nat → Int32} {d_broughtIn : Nat → Int32} {d_doneIn : Nat → Int32} {z_refusals : Nat → Int32}  {o : Int32 × Bool × Bool × Int32 × Int32 × Int32 × Int32 × Int32 × Bool × Bool × Int32 × Int32 × Int32 × Int32 × Int32 × Int32 × Bool × Int64 × Int64 × Int64 × (Nat → Int32) × (Nat → Int64) × (Nat → Int64) × (Nat → Int64) × (Nat → Int32) × Int32 × Int32 × Int32 × Bool} (h : f_X10_unit  z_hasUnit z_hasImage t_length t_bytes x_width x_guard x_stages x_fold x_pipe x_near s_at u_width u_guard u_bits u_stages u_places u_near u_quarter u_eighth u_ln u_shifts u_angles u_gains u_undos u_digits b_jobs b_over b_clocks b_held = some o) : Std g l yX10_unit (.code yX10_unit cX10_unit 1 (some .int) :: gw) rm_X10_unit A [.ref (q 0)] (wX g q z_hasUnit z_hasImage t_length t_bytes x_width x_guard x_stages x_fold x_pipe x_near s_at o_lines n_at o_kinds o_operands o_ties u_width u_guard u_bits u_stages u_places u_near u_quarter u_eighth u_ln u_shifts u_angles u_gains u_undos u_digits r_x r_y r_z r_upBits r_steps r_first r_second v_width v_guard v_bits v_stages v_places v_near v_quarter v_eighth v_ln v_shifts v_angles v_gains v_undos v_digits k_x k_y k_z k_upBits k_steps k_first k_second b_jobs b_over b_clocks b_held b_kinds b_operands b_ties b_states b_gone b_toldIn b_broughtIn b_doneIn c_jobs c_over c_clocks c_held c_kinds c_operands c_ties c_states c_gone c_toldIn c_broughtIn c_doneIn d_jobs d_over d_clocks d_held d_kinds d_operands d_ties d_states d_gone d_toldIn d_broughtIn d_doneIn z_refusals) (wX g q o.2.1 o.2.2.1 o.2.2.2.1 t_bytes o.2.2.2.2.1 o.2.2.2.2.2.1 o.2.2.2.2.2.2.1 o.2.2.2.2.2.2.2.1 o.2.2.2.2.2.2.2.2.1 o.2.2.2.2.2.2.2.2.2.1 o.2.2.2.2.2.2.2.2.2.2.1 o_lines n_at o_kinds o_operands o_ties o.2.2.2.2.2.2.2.2.2.2.2.1 o.2.2.2.2.2.2.2.2.2.2.2.2.1 o.2.2.2.2.2.2.2.2.2.2.2.2.2.1 o.2.2.2.2.2.2.2.2.2.2.2.2.2.2.1 o.2.2.2.2.2.2.2.2.2.2.2.2.2.2.2.1 o.2.2.2.2.2.2.2.2.2.2.2.2.2.2.2.2.1 o.2.2.2.2.2.2.2.2.2.2.2.2.2.2.2.2.2.1 o.2.2.2.2.2.2.2.2.2.2.2.2.2.2.2.2.2.2.1 o.2.2.2.2.2.2.2.2.2.2.2.2.2.2.2.2.2.2.2.1 o.2.2.2.2.2.2.2.2.2.2.2.2.2.2.2.2.2.2.2.2.1 o.2.2.2.2.2.2.2.2.2.2.2.2.2.2.2.2.2.2.2.2.2.1 o.2.2.2.2.2.2.2.2.2.2.2.2.2.2.2.2.2.2.2.2.2.2.1 o.2.2.2.2.2.2.2.2.2.2.2.2.2.2.2.2.2.2.2.2.2.2.2.1 o.2.2.2.2.2.2.2.2.2.2.2.2.2.2.2.2.2.2.2.2.2.2.2.2.1 r_x r_y r_z r_upBits r_steps r_first r_second v_width v_guard v_bits v_stages v_places v_near v_quarter v_eighth v_ln v_shifts v_angles v_gains v_undos v_digits k_x k_y k_z k_upBits k_steps k_first k_second o.2.2.2.2.2.2.2.2.2.2.2.2.2.2.2.2.2.2.2.2.2.2.2.2.2.1 o.2.2.2.2.2.2.2.2.2.2.2.2.2.2.2.2.2.2.2.2.2.2.2.2.2.2.1 o.2.2.2.2.2.2.2.2.2.2.2.2.2.2.2.2.2.2.2.2.2.2.2.2.2.2.2.1 o.2.2.2.2.2.2.2.2.2.2.2.2.2.2.2.2.2.2.2.2.2.2.2.2.2.2.2.2 b_kinds b_operands b_ties b_states b_gone b_toldIn b_broughtIn b_doneIn c_jobs c_over c_clocks c_held c_kinds c_operands c_ties c_states c_gone c_toldIn c_broughtIn c_doneIn d_jobs d_over d_clocks d_held d_kinds d_operands d_ties d_states d_gone d_toldIn d_broughtIn d_doneIn z_refusals) (some (.int o.1)) := by
  refine std_i (own := RX10) (by decide +kernel) rfl (Nat.le_of_ble_eq_true rfl) ?_
  intro p e s m args below meth c Q X ret H locs hP hS ls hl
  have hx := X.1
  have hb := X.2.1
  have hl : lv_has ls 1 [(0, .ref (q 0))] := hl
  have ret : ∀ {H : Heap} {locs : List Loc} {pc : Nat} {ls : Array Slot} {v : Int32} {z_hasUnit : Bool} {z_hasImage : Bool} {t_length : Int32} {x_width : Int32} {x_guard : Int32} {x_stages : Int32} {x_fold : Int32} {x_pipe : Bool} {x_near : Bool} {s_at : Int32} {u_width : Int32} {u_guard : Int32} {u_bits : Int32} {u_stages : Int32} {u_places : Int32} {u_near : Bool} {u_quarter : Int64} {u_eighth : Int64} {u_ln : Int64} {u_shifts : Nat → Int32} {u_angles : Nat → Int64} {u_gains : Nat → Int64} {u_undos : Nat → Int64} {u_digits : Nat → Int32} {b_jobs : Int32} {b_over : Int32} {b_clocks : Int32} {b_held : Bool}, some (v, z_hasUnit, z_hasImage, t_length, x_width, x_guard, x_stages, x_fold, x_pipe, x_near, s_at, u_width, u_guard, u_bits, u_stages, u_places, u_near, u_quarter, u_eighth, u_ln, u_shifts, u_angles, u_gains, u_undos, u_digits, b_jobs, b_over, b_clocks, b_held) = some o → WP g A (wX g q z_hasUnit z_hasImage t_length t_bytes x_width x_guard x_stages x_fold x_pipe x_near s_at o_lines n_at o_kinds o_operands o_ties u_width u_guard u_bits u_stages u_places u_near u_quarter u_eighth u_ln u_shifts u_angles u_gains u_undos u_digits r_x r_y r_z r_upBits r_steps r_first r_second v_width v_guard v_bits v_stages v_places v_near v_quarter v_eighth v_ln v_shifts v_angles v_gains v_undos v_digits k_x k_y k_z k_upBits k_steps k_first k_second b_jobs b_over b_clocks b_held b_kinds b_operands b_ties b_states b_gone b_toldIn b_broughtIn b_doneIn c_jobs c_over c_clocks c_held c_kinds c_operands c_ties c_states c_gone c_toldIn c_broughtIn c_doneIn d_jobs d_over d_clocks d_held d_kinds d_operands d_ties d_states d_gone d_toldIn d_broughtIn d_doneIn z_refusals) H → va_S A s.heap H locs → decode cX10_unit pc = .ok (.ireturn, 1) → W p l e rm_X10_unit s m args below meth c H locs 0 0 Q (F0 m pc ls [.int v]) := by
    intro H locs pc ls v z_hasUnit z_hasImage t_length x_width x_guard x_stages x_fold x_pipe x_near s_at u_width u_guard u_bits u_stages u_places u_near u_quarter u_eighth u_ln u_shifts u_angles u_gains u_undos u_digits b_jobs b_over b_clocks b_held h hP hS hd
    cases h
    exact ret hP hS hd
  unfold f_X10_unit at h
  refine lv_aload_n hx hb dX10_unit_0 rfl (lv_at hl 0 rfl) ?_
  refine gf_X10_23_X_0 X hP dX10_unit_1 ?_
  obtain ⟨o1, hco1, h⟩ := bd_of h
  obtain ⟨hF, hFA⟩ := fo_X_UText_3 hP
  refine kVN (rest := []) X dX10_unit_4 wd_2_150 mw_X9_read wd_2_152 wp_1_8 hF (k0 := 0) rfl rfl rfl hS hFA (c_X9_read hco1) rfl hl.1 rfl (Nat.le_of_ble_eq_true rfl) rfl rfl ⟨Nat.le_of_ble_eq_true rfl, Nat.le_of_ble_eq_true rfl⟩ (fun H locs hF1 _ hk hS => ?_)
  have hP := un_X_UText_3 hP hk hF1
  refine W.eq (g2 := F0 m 7 ls [.int o1.1]) rfl ?_
  refine lv_iconst (v := (-1)) hx hb dX10_unit_7 rfl ?_
  refine lv_icmp_eq (tgt := 13) hx hb dX10_unit_8 rfl (fun c8 => ?_) (fun c8 => ?_)
  · have h := br_p c8 h
    refine lv_aload_n hx hb dX10_unit_13 rfl (lv_at hl 0 rfl) ?_
    refine gf_X10_37_X_0 X hP dX10_unit_14 ?_
    refine lv_aload_n hx hb dX10_unit_17 rfl (lv_at hl 0 rfl) ?_
    refine gf_X10_23_X_0 X hP dX10_unit_18 ?_
    refine gf_X10_91_X_3 X hP dX10_unit_21 ?_
    refine lv_aload_n hx hb dX10_unit_24 rfl (lv_at hl 0 rfl) ?_
    refine gf_X10_23_X_0 X hP dX10_unit_25 ?_
    obtain ⟨o2, hco2, h⟩ := bd_of h
    obtain ⟨hF, hFA⟩ := fo_X_UText_3 hP
    refine kVN (rest := [.int o1.2.1, .ref (q 10)]) X dX10_unit_28 wd_3_62 mw_X9_guardOrUsual wd_3_64 wp_2_12 hF (k0 := 0) rfl rfl rfl hS hFA (c_X9_guardOrUsual hco2) rfl hl.1 rfl (Nat.le_of_ble_eq_true rfl) rfl rfl ⟨Nat.le_of_ble_eq_true rfl, Nat.le_of_ble_eq_true rfl⟩ (fun H locs hF1 _ hk hS => ?_)
    have hP := un_X_UText_3 hP hk hF1
    refine W.eq (g2 := F0 m 31 ls [.int o2, .int o1.2.1, .ref (q 10)]) rfl ?_
    refine lv_aload_n hx hb dX10_unit_31 rfl (lv_at hl 0 rfl) ?_
    refine gf_X10_23_X_0 X hP dX10_unit_32 ?_
    refine gf_X10_97_X_3 X hP dX10_unit_35 ?_
    refine lv_aload_n hx hb dX10_unit_38 rfl (lv_at hl 0 rfl) ?_
    refine gf_X10_23_X_0 X hP dX10_unit_39 ?_
    obtain ⟨o3, hco3, h⟩ := bd_of h
    obtain ⟨hF, hFA⟩ := fo_X_UText_3 hP
    refine kVN (rest := [.int o1.2.2.2.1, .int o2, .int o1.2.1, .ref (q 10)]) X dX10_unit_42 wd_3_66 mw_X9_placesOrStages wd_3_68 wp_2_13 hF (k0 := 0) rfl rfl rfl hS hFA (c_X9_placesOrStages hco3) rfl hl.1 rfl (Nat.le_of_ble_eq_true rfl) rfl rfl ⟨Nat.le_of_ble_eq_true rfl, Nat.le_of_ble_eq_true rfl⟩ (fun H locs hF1 _ hk hS => ?_)
    have hP := un_X_UText_3 hP hk hF1
    refine W.eq (g2 := F0 m 45 ls [.int o3, .int o1.2.2.2.1, .int o2, .int o1.2.1, .ref (q 10)]) rfl ?_
    refine lv_aload_n hx hb dX10_unit_45 rfl (lv_at hl 0 rfl) ?_
    refine gf_X10_23_X_0 X hP dX10_unit_46 ?_
    refine gf_X10_103_X_3 X hP dX10_unit_49 ?_
    obtain ⟨o4, hco4, h⟩ := bd_of h
    obtain ⟨hF, hFA⟩ := fo_X_Unit_10 hP
    refine kVN (rest := []) X dX10_unit_52 wd_1_236 mw_X8_build wd_1_238 wp_1_0 hF (k0 := 0) rfl rfl rfl hS hFA (c_X8_build hco4) rfl hl.1 rfl (Nat.le_of_ble_eq_true rfl) rfl rfl ⟨Nat.le_of_ble_eq_true rfl, Nat.le_of_ble_eq_true rfl⟩ (fun H locs hF1 _ hk hS => ?_)
    have hP := un_X_Unit_10 hP hk hF1
    refine W.eq (g2 := F0 m 55 ls []) rfl ?_
    refine lv_aload_n hx hb dX10_unit_55 rfl (lv_at hl 0 rfl) ?_
    refine gf_X10_60_X_0 X hP dX10_unit_56 ?_
    obtain ⟨o5, hco5, h⟩ := bd_of h
    obtain ⟨hF, hFA⟩ := fo_X_Book_24 hP
    refine kVN (rest := []) X dX10_unit_59 wd_3_70 mw_X1_clear wd_3_72 wp_2_14 hF (k0 := 0) rfl rfl rfl hS hFA (c_X1_clear hco5) rfl hl.1 rfl (Nat.le_of_ble_eq_true rfl) rfl rfl ⟨Nat.le_of_ble_eq_true rfl, Nat.le_of_ble_eq_true rfl⟩ (fun H locs hF1 _ hk hS => ?_)
    have hP := un_X_Book_24 hP hk hF1
    refine W.eq (g2 := F0 m 62 ls []) rfl ?_
    refine lv_aload_n hx hb dX10_unit_62 rfl (lv_at hl 0 rfl) ?_
    refine gf_X10_12_X_0 X hP dX10_unit_63 ?_
    refine lv_iconst (v := 0) hx hb dX10_unit_66 rfl ?_
    refine pf_X10_78_X_1 (v0 := (0 : Int32)) X hP hS dX10_unit_67 (fun H locs hP hS => ?_)
    refine lv_aload_n hx hb dX10_unit_70 rfl (lv_at hl 0 rfl) ?_
    refine lv_iconst (v := 1) hx hb dX10_unit_71 rfl ?_
    refine pf_X10_110_X_0 (v0 := true) X hP hS dX10_unit_72 (fun H locs hP hS => ?_)
    refine lv_aload_n hx hb dX10_unit_75 rfl (lv_at hl 0 rfl) ?_
    refine lv_iconst (v := 0) hx hb dX10_unit_76 rfl ?_
    refine pf_X10_113_X_0 (v0 := false) X hP hS dX10_unit_77 (fun H locs hP hS => ?_)
    refine lv_aload_n hx hb dX10_unit_80 rfl (lv_at hl 0 rfl) ?_
    refine gf_X10_37_X_0 X hP dX10_unit_81 ?_
    refine gf_X10_116_X_10 X hP dX10_unit_84 ?_
    exact ret h hP hS dX10_unit_87
  · have h := br_n c8 h
    refine lv_iconst (v := (-1)) hx hb dX10_unit_11 rfl ?_
    exact ret h hP hS dX10_unit_12
abbrev rm_X10_rule : Room := { frames := 1, cells := 0, slots := 0, locals := 23 }
set_option maxRecDepth 100000 in
set_option maxHeartbeats 4000000 in
theorem c_X10_rule {g : gT} {l : Launch} {A : Nat → Prop} {q : Nat → Nat} {z_hasUnit : Bool} {z_hasImage : Bool} {t_length : Int32} {t_bytes : Nat → Int32} {x_width : Int32} {x_guard : Int32} {x_stages : Int32} {x_fold : Int32} {x_pipe : Bool} {x_near : Bool} {s_at : Int32} {o_lines : Int32} {n_at : Int32} {o_kinds : Nat → Int32} {o_operands : Nat → Int32} {o_ties : Nat → Int32} {u_width : Int32} {u_guard : Int32} {u_bits : Int32} {u_stages : Int32} {u_places : Int32} {u_near : Bool} {u_quarter : Int64} {u_eighth : Int64} {u_ln : Int64} {u_shifts : Nat → Int32} {u_angles : Nat → Int64} {u_gains : Nat → Int64} {u_undos : Nat → Int64} {u_digits : Nat → Int32} {r_x : Int64} {r_y : Int64} {r_z : Int64} {r_upBits : Int32} {r_steps : Int32} {r_first : Int64} {r_second : Int64} {v_width : Int32} {v_guard : Int32} {v_bits : Int32} {v_stages : Int32} {v_places : Int32} {v_near : Bool} {v_quarter : Int64} {v_eighth : Int64} {v_ln : Int64} {v_shifts : Nat → Int32} {v_angles : Nat → Int64} {v_gains : Nat → Int64} {v_undos : Nat → Int64} {v_digits : Nat → Int32} {k_x : Int64} {k_y : Int64} {k_z : Int64} {k_upBits : Int32} {k_steps : Int32} {k_first : Int64} {k_second : Int64} {b_jobs : Int32} {b_over : Int32} {b_clocks : Int32} {b_held : Bool} {b_kinds : Nat → Int32} {b_operands : Nat → Int32} {b_ties : Nat → Int32} {b_states : Nat → Int32} {b_gone : Nat → Int32} {b_toldIn : Nat → Int32} {b_broughtIn : Nat → Int32} {b_doneIn : Nat → Int32} {c_jobs : Int32} {c_over : Int32} {c_clocks : Int32} {c_held : Bool} {c_kinds : Nat → Int32} {c_operands : Nat → Int32} {c_ties : Nat → Int32} {c_states : Nat → Int32} {c_gone : Nat → Int32} {c_toldIn : Nat → Int32} {c_broughtIn : Nat → Int32} {c_doneIn : Nat → Int32} {d_jobs : Int32} {d_over : Int32} {d_clocks : Int32} {d_held : Bool} {d_kinds : Nat → Int32} {d_operands : Nat → Int32} {d_ties : Nat → Int32} {d_states : Nat → Int32} {d_gone : Nat → Int32} {d_toldIn : Nat → Int32} {d_broughtIn : Nat → Int32} {d_doneIn : Nat → Int32} {z_refusals : Nat → Int32} {p0 : Int32} {o : Int32} (h : f_X10_rule p0 z_hasUnit u_width u_guard u_stages u_places u_near b_jobs b_clocks b_held b_states = some o) : Std g l yX10_rule (.code yX10_rule cX10_rule 2 (some .int) :: gw) rm_X10_rule A [.ref (q 0), .int p0] (wX g q z_hasUnit z_hasImage t_length t_bytes x_width x_guard x_stages x_fold x_pipe x_near s_at o_lines n_at o_kinds o_operands o_ties u_width u_guard u_bits u_stages u_places u_near u_quarter u_eighth u_ln u_shifts u_angles u_gains u_undos u_digits r_x r_y r_z r_upBits r_steps r_first r_second v_width v_guard v_bits v_stages v_places v_near v_quarter v_eighth v_ln v_shifts v_angles v_gains v_undos v_digits k_x k_y k_z k_upBits k_steps k_first k_second b_jobs b_over b_clocks b_held b_kinds b_operands b_ties b_states b_gone b_toldIn b_broughtIn b_doneIn c_jobs c_over c_clocks c_held c_kinds c_operands c_ties c_states c_gone c_toldIn c_broughtIn c_doneIn d_jobs d_over d_clocks d_held d_kinds d_operands d_ties d_states d_gone d_toldIn d_broughtIn d_doneIn z_refusals) (wX g q z_hasUnit z_hasImage t_length t_bytes x_width x_guard x_stages x_fold x_pipe x_near s_at o_lines n_at o_kinds o_operands o_ties u_width u_guard u_bits u_stages u_places u_near u_quarter u_eighth u_ln u_shifts u_angles u_gains u_undos u_digits r_x r_y r_z r_upBits r_steps r_first r_second v_width v_guard v_bits v_stages v_places v_near v_quarter v_eighth v_ln v_shifts v_angles v_gains v_undos v_digits k_x k_y k_z k_upBits k_steps k_first k_second b_jobs b_over b_clocks b_held b_kinds b_operands b_ties b_states b_gone b_toldIn b_broughtIn b_doneIn c_jobs c_over c_clocks c_held c_kinds c_operands c_ties c_states c_gone c_toldIn c_broughtIn c_doneIn d_jobs d_over d_clocks d_held d_kinds d_operands d_ties d_states d_gone d_toldIn d_broughtIn d_doneIn z_refusals) (some (.int o)) := by
  refine std_i (own := RX10) (by decide +kernel) rfl (Nat.le_of_ble_eq_true rfl) ?_
  intro p e s m args below meth c Q X ret H locs hP hS ls hl
  have hx := X.1
  have hb := X.2.1
  have hl : lv_has ls 2 [(0, .ref (q 0)), (1, .int p0)] := hl
  have ret : ∀ {H : Heap} {locs : List Loc} {pc : Nat} {ls : Array Slot} {v : Int32} , some (v) = some o → WP g A (wX g q z_hasUnit z_hasImage t_length t_bytes x_width x_guard x_stages x_fold x_pipe x_near s_at o_lines n_at o_kinds o_operands o_ties u_width u_guard u_bits u_stages u_places u_near u_quarter u_eighth u_ln u_shifts u_angles u_gains u_undos u_digits r_x r_y r_z r_upBits r_steps r_first r_second v_width v_guard v_bits v_stages v_places v_near v_quarter v_eighth v_ln v_shifts v_angles v_gains v_undos v_digits k_x k_y k_z k_upBits k_steps k_first k_second b_jobs b_over b_clocks b_held b_kinds b_operands b_ties b_states b_gone b_toldIn b_broughtIn b_doneIn c_jobs c_over c_clocks c_held c_kinds c_operands c_ties c_states c_gone c_toldIn c_broughtIn c_doneIn d_jobs d_over d_clocks d_held d_kinds d_operands d_ties d_states d_gone d_toldIn d_broughtIn d_doneIn z_refusals) H → va_S A s.heap H locs → decode cX10_rule pc = .ok (.ireturn, 1) → W p l e rm_X10_rule s m args below meth c H locs 0 0 Q (F0 m pc ls [.int v]) := by
    intro H locs pc ls v h hP hS hd
    cases h
    exact ret hP hS hd
  unfold f_X10_rule at h
  refine lv_aload_n hx hb dX10_rule_0 rfl (lv_at hl 0 rfl) ?_
  refine gf_X10_110_X_0 X hP dX10_rule_1 ?_
  refine rb_ne (tgt := 9) hx hb dX10_rule_4 rfl (fun c4 => ?_) (fun c4 => ?_)
  · have h := br_p c4 h
    refine lv_iload_n hx hb dX10_rule_9 rfl (lv_at hl 1 rfl) ?_
    by_cases c10_0 : p0 = 0
    · have h := br_p c10_0 h
      refine lv_tableIn (off := 62) (tgt := 72) hx hb dX10_rule_10 (by rw [c10_0]; decide) (by rw [c10_0]; decide) (by rw [c10_0]; rfl) rfl ?_
      refine lv_aload_n hx hb dX10_rule_72 rfl (lv_at hl 0 rfl) ?_
      refine gf_X10_37_X_0 X hP dX10_rule_73 ?_
      refine gf_X10_117_X_10 X hP dX10_rule_76 ?_
      exact ret h hP hS dX10_rule_79
    have h := br_n c10_0 h
    by_cases c10_1 : p0 = 1
    · have h := br_p c10_1 h
      refine lv_tableIn (off := 70) (tgt := 80) hx hb dX10_rule_10 (by rw [c10_1]; decide) (by rw [c10_1]; decide) (by rw [c10_1]; rfl) rfl ?_
      refine lv_aload_n hx hb dX10_rule_80 rfl (lv_at hl 0 rfl) ?_
      refine gf_X10_37_X_0 X hP dX10_rule_81 ?_
      refine gf_X10_118_X_10 X hP dX10_rule_84 ?_
      exact ret h hP hS dX10_rule_87
    have h := br_n c10_1 h
    by_cases c10_2 : p0 = 2
    · have h := br_p c10_2 h
      refine lv_tableIn (off := 78) (tgt := 88) hx hb dX10_rule_10 (by rw [c10_2]; decide) (by rw [c10_2]; decide) (by rw [c10_2]; rfl) rfl ?_
      refine lv_aload_n hx hb dX10_rule_88 rfl (lv_at hl 0 rfl) ?_
      refine gf_X10_37_X_0 X hP dX10_rule_89 ?_
      refine gf_X10_116_X_10 X hP dX10_rule_92 ?_
      exact ret h hP hS dX10_rule_95
    have h := br_n c10_2 h
    by_cases c10_3 : p0 = 3
    · have h := br_p c10_3 h
      refine lv_tableIn (off := 86) (tgt := 96) hx hb dX10_rule_10 (by rw [c10_3]; decide) (by rw [c10_3]; decide) (by rw [c10_3]; rfl) rfl ?_
      refine lv_aload_n hx hb dX10_rule_96 rfl (lv_at hl 0 rfl) ?_
      refine gf_X10_37_X_0 X hP dX10_rule_97 ?_
      refine gf_X10_121_X_10 X hP dX10_rule_100 ?_
      exact ret h hP hS dX10_rule_103
    have h := br_n c10_3 h
    by_cases c10_4 : p0 = 4
    · have h := br_p c10_4 h
      refine lv_tableIn (off := 94) (tgt := 104) hx hb dX10_rule_10 (by rw [c10_4]; decide) (by rw [c10_4]; decide) (by rw [c10_4]; rfl) rfl ?_
      refine lv_aload_n hx hb dX10_rule_104 rfl (lv_at hl 0 rfl) ?_
      refine gf_X10_37_X_0 X hP dX10_rule_105 ?_
      refine gf_X10_124_X_10 X hP dX10_rule_108 ?_
      refine jx1 h (P := fun (v1 : Bool) => ∀ ls : Array Slot, lv_has ls 2 [] → W p l e rm_X10_rule s m args below meth c H locs 0 0 Q (F0 m 119 ls [.int (bI v1)])) ?_ ?_
      · intro v1 h ls hl
        exact ret h hP hS dX10_rule_119
      · intro J h
        refine rb_eq (tgt := 118) hx hb dX10_rule_111 rfl (fun c111 => ?_) (fun c111 => ?_)
        · refine lv_iconst (v := 0) hx hb dX10_rule_118 rfl ?_
          exact J _ (lt_in c111 h) ls (lv_sub hl [] rfl)
        · refine lv_iconst (v := 1) hx hb dX10_rule_114 rfl ?_
          refine lv_goto (tgt := 119) hx hb dX10_rule_115 rfl ?_
          exact J _ (lt_ip c111 h) ls (lv_sub hl [] rfl)
    have h := br_n c10_4 h
    by_cases c10_5 : p0 = 5
    · have h := br_p c10_5 h
      refine lv_tableIn (off := 110) (tgt := 120) hx hb dX10_rule_10 (by rw [c10_5]; decide) (by rw [c10_5]; decide) (by rw [c10_5]; rfl) rfl ?_
      refine lv_aload_n hx hb dX10_rule_120 rfl (lv_at hl 0 rfl) ?_
      refine gf_X10_60_X_0 X hP dX10_rule_121 ?_
      refine gf_X10_125_X_24 X hP dX10_rule_124 ?_
      exact ret h hP hS dX10_rule_127
    have h := br_n c10_5 h
    by_cases c10_6 : p0 = 6
    · have h := br_p c10_6 h
      refine lv_tableIn (off := 118) (tgt := 128) hx hb dX10_rule_10 (by rw [c10_6]; decide) (by rw [c10_6]; decide) (by rw [c10_6]; rfl) rfl ?_
      refine lv_aload_n hx hb dX10_rule_128 rfl (lv_at hl 0 rfl) ?_
      refine gf_X10_60_X_0 X hP dX10_rule_129 ?_
      refine gf_X10_128_X_24 X hP dX10_rule_132 ?_
      exact ret h hP hS dX10_rule_135
    have h := br_n c10_6 h
    by_cases c10_7 : p0 = 7
    · have h := br_p c10_7 h
      refine lv_tableIn (off := 126) (tgt := 136) hx hb dX10_rule_10 (by rw [c10_7]; decide) (by rw [c10_7]; decide) (by rw [c10_7]; rfl) rfl ?_
      refine lv_aload_n hx hb dX10_rule_136 rfl (lv_at hl 0 rfl) ?_
      refine gf_X10_60_X_0 X hP dX10_rule_137 ?_
      refine lv_iconst (v := 0) hx hb dX10_rule_140 rfl ?_
      obtain ⟨o2, hco2, h⟩ := bd_of h
      obtain ⟨hF, hFA⟩ := fo_X_Book_24 hP
      refine kVN (rest := []) X dX10_rule_141 wd_3_78 mw_X1_howMany wd_3_80 wp_2_15 hF (k0 := 0) rfl rfl rfl hS hFA (c_X1_howMany hco2) rfl hl.1 rfl (Nat.le_of_ble_eq_true rfl) rfl rfl ⟨Nat.le_of_ble_eq_true rfl, Nat.le_of_ble_eq_true rfl⟩ (fun H locs hF1 _ hk hS => ?_)
      have hP := un_X_Book_24 hP hk hF1
      refine W.eq (g2 := F0 m 144 ls [.int o2]) rfl ?_
      exact ret h hP hS dX10_rule_144
    have h := br_n c10_7 h
    by_cases c10_8 : p0 = 8
    · have h := br_p c10_8 h
      refine lv_tableIn (off := 135) (tgt := 145) hx hb dX10_rule_10 (by rw [c10_8]; decide) (by rw [c10_8]; decide) (by rw [c10_8]; rfl) rfl ?_
      refine lv_aload_n hx hb dX10_rule_145 rfl (lv_at hl 0 rfl) ?_
      refine gf_X10_60_X_0 X hP dX10_rule_146 ?_
      refine lv_iconst (v := 1) hx hb dX10_rule_149 rfl ?_
      obtain ⟨o3, hco3, h⟩ := bd_of h
      obtain ⟨hF, hFA⟩ := fo_X_Book_24 hP
      refine kVN (rest := []) X dX10_rule_150 wd_3_78 mw_X1_howMany wd_3_80 wp_2_15 hF (k0 := 0) rfl rfl rfl hS hFA (c_X1_howMany hco3) rfl hl.1 rfl (Nat.le_of_ble_eq_true rfl) rfl rfl ⟨Nat.le_of_ble_eq_true rfl, Nat.le_of_ble_eq_true rfl⟩ (fun H locs hF1 _ hk hS => ?_)
      have hP := un_X_Book_24 hP hk hF1
      refine W.eq (g2 := F0 m 153 ls [.int o3]) rfl ?_
      exact ret h hP hS dX10_rule_153
    have h := br_n c10_8 h
    by_cases c10_9 : p0 = 9
    · have h := br_p c10_9 h
      refine lv_tableIn (off := 144) (tgt := 154) hx hb dX10_rule_10 (by rw [c10_9]; decide) (by rw [c10_9]; decide) (by rw [c10_9]; rfl) rfl ?_
      refine lv_aload_n hx hb dX10_rule_154 rfl (lv_at hl 0 rfl) ?_
      refine gf_X10_60_X_0 X hP dX10_rule_155 ?_
      refine lv_iconst (v := 2) hx hb dX10_rule_158 rfl ?_
      obtain ⟨o4, hco4, h⟩ := bd_of h
      obtain ⟨hF, hFA⟩ := fo_X_Book_24 hP
      refine kVN (rest := []) X dX10_rule_159 wd_3_78 mw_X1_howMany wd_3_80 wp_2_15 hF (k0 := 0) rfl rfl rfl hS hFA (c_X1_howMany hco4) rfl hl.1 rfl (Nat.le_of_ble_eq_true rfl) rfl rfl ⟨Nat.le_of_ble_eq_true rfl, Nat.le_of_ble_eq_true rfl⟩ (fun H locs hF1 _ hk hS => ?_)
      have hP := un_X_Book_24 hP hk hF1
      refine W.eq (g2 := F0 m 162 ls [.int o4]) rfl ?_
      exact ret h hP hS dX10_rule_162
    have h := br_n c10_9 h
    by_cases c10_10 : p0 = 10
    · have h := br_p c10_10 h
      refine lv_tableIn (off := 153) (tgt := 163) hx hb dX10_rule_10 (by rw [c10_10]; decide) (by rw [c10_10]; decide) (by rw [c10_10]; rfl) rfl ?_
      refine lv_aload_n hx hb dX10_rule_163 rfl (lv_at hl 0 rfl) ?_
      refine gf_X10_60_X_0 X hP dX10_rule_164 ?_
      refine gf_X10_134_X_24 X hP dX10_rule_167 ?_
      refine jx1 h (P := fun (v5 : Bool) => ∀ ls : Array Slot, lv_has ls 2 [] → W p l e rm_X10_rule s m args below meth c H locs 0 0 Q (F0 m 178 ls [.int (bI v5)])) ?_ ?_
      · intro v5 h ls hl
        exact ret h hP hS dX10_rule_178
      · intro J h
        refine rb_eq (tgt := 177) hx hb dX10_rule_170 rfl (fun c170 => ?_) (fun c170 => ?_)
        · refine lv_iconst (v := 0) hx hb dX10_rule_177 rfl ?_
          exact J _ (lt_in c170 h) ls (lv_sub hl [] rfl)
        · refine lv_iconst (v := 1) hx hb dX10_rule_173 rfl ?_
          refine lv_goto (tgt := 178) hx hb dX10_rule_174 rfl ?_
          exact J _ (lt_ip c170 h) ls (lv_sub hl [] rfl)
    have h := br_n c10_10 h
    by_cases c10_11 : p0 = 11
    · have h := br_p c10_11 h
      refine lv_tableIn (off := 169) (tgt := 179) hx hb dX10_rule_10 (by rw [c10_11]; decide) (by rw [c10_11]; decide) (by rw [c10_11]; rfl) rfl ?_
      refine lv_aload_n hx hb dX10_rule_179 rfl (lv_at hl 0 rfl) ?_
      refine gf_X10_60_X_0 X hP dX10_rule_180 ?_
      refine lv_iconst (v := 3) hx hb dX10_rule_183 rfl ?_
      obtain ⟨o6, hco6, h⟩ := bd_of h
      obtain ⟨hF, hFA⟩ := fo_X_Book_24 hP
      refine kVN (rest := []) X dX10_rule_184 wd_3_78 mw_X1_howMany wd_3_80 wp_2_15 hF (k0 := 0) rfl rfl rfl hS hFA (c_X1_howMany hco6) rfl hl.1 rfl (Nat.le_of_ble_eq_true rfl) rfl rfl ⟨Nat.le_of_ble_eq_true rfl, Nat.le_of_ble_eq_true rfl⟩ (fun H locs hF1 _ hk hS => ?_)
      have hP := un_X_Book_24 hP hk hF1
      refine W.eq (g2 := F0 m 187 ls [.int o6]) rfl ?_
      exact ret h hP hS dX10_rule_187
    have h := br_n c10_11 h
    refine lv_tableOut (tgt := 188) hx hb dX10_rule_10 (by have := lv_neT (a := 0) c10_0 rfl; have := lv_neT (a := 1) c10_1 rfl; have := lv_neT (a := 2) c10_2 rfl; have := lv_neT (a := 3) c10_3 rfl; have := lv_neT (a := 4) c10_4 rfl; have := lv_neT (a := 5) c10_5 rfl; have := lv_neT (a := 6) c10_6 rfl; have := lv_neT (a := 7) c10_7 rfl; have := lv_neT (a := 8) c10_8 rfl; have := lv_neT (a := 9) c10_9 rfl; have := lv_neT (a := 10) c10_10 rfl; have := lv_neT (a := 11) c10_11 rfl; omega) rfl ?_
    refine lv_iconst (v := (-1)) hx hb dX10_rule_188 rfl ?_
    exact ret h hP hS dX10_rule_189
  · have h := br_n c4 h
    refine lv_iconst (v := (-1)) hx hb dX10_rule_7 rfl ?_
    exact ret h hP hS dX10_rule_8
abbrev rm_X10_constant : Room := { frames := 0, cells := 0, slots := 0, locals := 0 }
set_option maxRecDepth 100000 in
set_option maxHeartbeats 4000000 in
theorem c_X10_constant {g : gT} {l : Launch} {A : Nat → Prop} {q : Nat → Nat} {z_hasUnit : Bool} {z_hasImage : Bool} {t_length : Int32} {t_bytes : Nat → Int32} {x_width : Int32} {x_guard : Int32} {x_stages : Int32} {x_fold : Int32} {x_pipe : Bool} {x_near : Bool} {s_at : Int32} {o_lines : Int32} {n_at : Int32} {o_kinds : Nat → Int32} {o_operands : Nat → Int32} {o_ties : Nat → Int32} {u_width : Int32} {u_guard : Int32} {u_bits : Int32} {u_stages : Int32} {u_places : Int32} {u_near : Bool} {u_quarter : Int64} {u_eighth : Int64} {u_ln : Int64} {u_shifts : Nat → Int32} {u_angles : Nat → Int64} {u_gains : Nat → Int64} {u_undos : Nat → Int64} {u_digits : Nat → Int32} {r_x : Int64} {r_y : Int64} {r_z : Int64} {r_upBits : Int32} {r_steps : Int32} {r_first : Int64} {r_second : Int64} {v_width : Int32} {v_guard : Int32} {v_bits : Int32} {v_stages : Int32} {v_places : Int32} {v_near : Bool} {v_quarter : Int64} {v_eighth : Int64} {v_ln : Int64} {v_shifts : Nat → Int32} {v_angles : Nat → Int64} {v_gains : Nat → Int64} {v_undos : Nat → Int64} {v_digits : Nat → Int32} {k_x : Int64} {k_y : Int64} {k_z : Int64} {k_upBits : Int32} {k_steps : Int32} {k_first : Int64} {k_second : Int64} {b_jobs : Int32} {b_over : Int32} {b_clocks : Int32} {b_held : Bool} {b_kinds : Nat → Int32} {b_operands : Nat → Int32} {b_ties : Nat → Int32} {b_states : Nat → Int32} {b_gone : Nat → Int32} {b_toldIn : Nat → Int32} {b_broughtIn : Nat → Int32} {b_doneIn : Nat → Int32} {c_jobs : Int32} {c_over : Int32} {c_clocks : Int32} {c_held : Bool} {c_kinds : Nat → Int32} {c_operands : Nat → Int32} {c_ties : Nat → Int32} {c_states : Nat → Int32} {c_gone : Nat → Int32} {c_toldIn : Nat → Int32} {c_broughtIn : Nat → Int32} {c_doneIn : Nat → Int32} {d_jobs : Int32} {d_over : Int32} {d_clocks : Int32} {d_held : Bool} {d_kinds : Nat → Int32} {d_operands : Nat → Int32} {d_ties : Nat → Int32} {d_states : Nat → Int32} {d_gone : Nat → Int32} {d_toldIn : Nat → Int32} {d_broughtIn : Nat → Int32} {d_doneIn : Nat → Int32} {z_refusals : Nat → Int32} {p0 : Int32} {o : Int32} (h : f_X10_constant p0 z_hasUnit u_quarter u_eighth u_ln = some o) : Std g l yX10_constant (.code yX10_constant cX10_constant 2 (some .int) :: gw) rm_X10_constant A [.ref (q 0), .int p0] (wX g q z_hasUnit z_hasImage t_length t_bytes x_width x_guard x_stages x_fold x_pipe x_near s_at o_lines n_at o_kinds o_operands o_ties u_width u_guard u_bits u_stages u_places u_near u_quarter u_eighth u_ln u_shifts u_angles u_gains u_undos u_digits r_x r_y r_z r_upBits r_steps r_first r_second v_width v_guard v_bits v_stages v_places v_near v_quarter v_eighth v_ln v_shifts v_angles v_gains v_undos v_digits k_x k_y k_z k_upBits k_steps k_first k_second b_jobs b_over b_clocks b_held b_kinds b_operands b_ties b_states b_gone b_toldIn b_broughtIn b_doneIn c_jobs c_over c_clocks c_held c_kinds c_operands c_ties c_states c_gone c_toldIn c_broughtIn c_doneIn d_jobs d_over d_clocks d_held d_kinds d_operands d_ties d_states d_gone d_toldIn d_broughtIn d_doneIn z_refusals) (wX g q z_hasUnit z_hasImage t_length t_bytes x_width x_guard x_stages x_fold x_pipe x_near s_at o_lines n_at o_kinds o_operands o_ties u_width u_guard u_bits u_stages u_places u_near u_quarter u_eighth u_ln u_shifts u_angles u_gains u_undos u_digits r_x r_y r_z r_upBits r_steps r_first r_second v_width v_guard v_bits v_stages v_places v_near v_quarter v_eighth v_ln v_shifts v_angles v_gains v_undos v_digits k_x k_y k_z k_upBits k_steps k_first k_second b_jobs b_over b_clocks b_held b_kinds b_operands b_ties b_states b_gone b_toldIn b_broughtIn b_doneIn c_jobs c_over c_clocks c_held c_kinds c_operands c_ties c_states c_gone c_toldIn c_broughtIn c_doneIn d_jobs d_over d_clocks d_held d_kinds d_operands d_ties d_states d_gone d_toldIn d_broughtIn d_doneIn z_refusals) (some (.int o)) := by
  refine std_i (own := RX10) (by decide +kernel) rfl (Nat.le_of_ble_eq_true rfl) ?_
  intro p e s m args below meth c Q X ret H locs hP hS ls hl
  have hx := X.1
  have hb := X.2.1
  have hl : lv_has ls 2 [(0, .ref (q 0)), (1, .int p0)] := hl
  have ret : ∀ {H : Heap} {locs : List Loc} {pc : Nat} {ls : Array Slot} {v : Int32} , some (v) = some o → WP g A (wX g q z_hasUnit z_hasImage t_length t_bytes x_width x_guard x_stages x_fold x_pipe x_near s_at o_lines n_at o_kinds o_operands o_ties u_width u_guard u_bits u_stages u_places u_near u_quarter u_eighth u_ln u_shifts u_angles u_gains u_undos u_digits r_x r_y r_z r_upBits r_steps r_first r_second v_width v_guard v_bits v_stages v_places v_near v_quarter v_eighth v_ln v_shifts v_angles v_gains v_undos v_digits k_x k_y k_z k_upBits k_steps k_first k_second b_jobs b_over b_clocks b_held b_kinds b_operands b_ties b_states b_gone b_toldIn b_broughtIn b_doneIn c_jobs c_over c_clocks c_held c_kinds c_operands c_ties c_states c_gone c_toldIn c_broughtIn c_doneIn d_jobs d_over d_clocks d_held d_kinds d_operands d_ties d_states d_gone d_toldIn d_broughtIn d_doneIn z_refusals) H → va_S A s.heap H locs → decode cX10_constant pc = .ok (.ireturn, 1) → W p l e rm_X10_constant s m args below meth c H locs 0 0 Q (F0 m pc ls [.int v]) := by
    intro H locs pc ls v h hP hS hd
    cases h
    exact ret hP hS hd
  unfold f_X10_constant at h
  refine lv_aload_n hx hb dX10_constant_0 rfl (lv_at hl 0 rfl) ?_
  refine gf_X10_110_X_0 X hP dX10_constant_1 ?_
  refine rb_ne (tgt := 9) hx hb dX10_constant_4 rfl (fun c4 => ?_) (fun c4 => ?_)
  · have h := br_p c4 h
    refine lv_iload_n hx hb dX10_constant_9 rfl (lv_at hl 1 rfl) ?_
    by_cases c10_0 : p0 = 0
    · have h := br_p c10_0 h
      refine lv_tableIn (off := 26) (tgt := 36) hx hb dX10_constant_10 (by rw [c10_0]; decide) (by rw [c10_0]; decide) (by rw [c10_0]; rfl) rfl ?_
      refine lv_aload_n hx hb dX10_constant_36 rfl (lv_at hl 0 rfl) ?_
      refine gf_X10_37_X_0 X hP dX10_constant_37 ?_
      refine gf_X10_137_X_10 X hP dX10_constant_40 ?_
      refine lv_l2i hx hb dX10_constant_43 rfl ?_
      exact ret h hP hS dX10_constant_44
    have h := br_n c10_0 h
    by_cases c10_1 : p0 = 1
    · have h := br_p c10_1 h
      refine lv_tableIn (off := 35) (tgt := 45) hx hb dX10_constant_10 (by rw [c10_1]; decide) (by rw [c10_1]; decide) (by rw [c10_1]; rfl) rfl ?_
      refine lv_aload_n hx hb dX10_constant_45 rfl (lv_at hl 0 rfl) ?_
      refine gf_X10_37_X_0 X hP dX10_constant_46 ?_
      refine gf_X10_141_X_10 X hP dX10_constant_49 ?_
      refine lv_l2i hx hb dX10_constant_52 rfl ?_
      exact ret h hP hS dX10_constant_53
    have h := br_n c10_1 h
    by_cases c10_2 : p0 = 2
    · have h := br_p c10_2 h
      refine lv_tableIn (off := 44) (tgt := 54) hx hb dX10_constant_10 (by rw [c10_2]; decide) (by rw [c10_2]; decide) (by rw [c10_2]; rfl) rfl ?_
      refine lv_aload_n hx hb dX10_constant_54 rfl (lv_at hl 0 rfl) ?_
      refine gf_X10_37_X_0 X hP dX10_constant_55 ?_
      refine gf_X10_144_X_10 X hP dX10_constant_58 ?_
      refine lv_l2i hx hb dX10_constant_61 rfl ?_
      exact ret h hP hS dX10_constant_62
    have h := br_n c10_2 h
    refine lv_tableOut (tgt := 63) hx hb dX10_constant_10 (by have := lv_neT (a := 0) c10_0 rfl; have := lv_neT (a := 1) c10_1 rfl; have := lv_neT (a := 2) c10_2 rfl; omega) rfl ?_
    refine lv_iconst (v := (-1)) hx hb dX10_constant_63 rfl ?_
    exact ret h hP hS dX10_constant_64
  · have h := br_n c4 h
    refine lv_iconst (v := (-1)) hx hb dX10_constant_7 rfl ?_
    exact ret h hP hS dX10_constant_8
abbrev rm_X10_isMode : Room := { frames := 0, cells := 0, slots := 0, locals := 0 }
set_option maxRecDepth 100000 in
set_option maxHeartbeats 4000000 in
theorem c_X10_isMode {g : gT} {l : Launch} {A : Nat → Prop} {q : Nat → Nat} {z_hasUnit : Bool} {z_hasImage : Bool} {t_length : Int32} {t_bytes : Nat → Int32} {x_width : Int32} {x_guard : Int32} {x_stages : Int32} {x_fold : Int32} {x_pipe : Bool} {x_near : Bool} {s_at : Int32} {o_lines : Int32} {n_at : Int32} {o_kinds : Nat → Int32} {o_operands : Nat → Int32} {o_ties : Nat → Int32} {u_width : Int32} {u_guard : Int32} {u_bits : Int32} {u_stages : Int32} {u_places : Int32} {u_near : Bool} {u_quarter : Int64} {u_eighth : Int64} {u_ln : Int64} {u_shifts : Nat → Int32} {u_angles : Nat → Int64} {u_gains : Nat → Int64} {u_undos : Nat → Int64} {u_digits : Nat → Int32} {r_x : Int64} {r_y : Int64} {r_z : Int64} {r_upBits : Int32} {r_steps : Int32} {r_first : Int64} {r_second : Int64} {v_width : Int32} {v_guard : Int32} {v_bits : Int32} {v_stages : Int32} {v_places : Int32} {v_near : Bool} {v_quarter : Int64} {v_eighth : Int64} {v_ln : Int64} {v_shifts : Nat → Int32} {v_angles : Nat → Int64} {v_gains : Nat → Int64} {v_undos : Nat → Int64} {v_digits : Nat → Int32} {k_x : Int64} {k_y : Int64} {k_z : Int64} {k_upBits : Int32} {k_steps : Int32} {k_first : Int64} {k_second : Int64} {b_jobs : Int32} {b_over : Int32} {b_clocks : Int32} {b_held : Bool} {b_kinds : Nat → Int32} {b_operands : Nat → Int32} {b_ties : Nat → Int32} {b_states : Nat → Int32} {b_gone : Nat → Int32} {b_toldIn : Nat → Int32} {b_broughtIn : Nat → Int32} {b_doneIn : Nat → Int32} {c_jobs : Int32} {c_over : Int32} {c_clocks : Int32} {c_held : Bool} {c_kinds : Nat → Int32} {c_operands : Nat → Int32} {c_ties : Nat → Int32} {c_states : Nat → Int32} {c_gone : Nat → Int32} {c_toldIn : Nat → Int32} {c_broughtIn : Nat → Int32} {c_doneIn : Nat → Int32} {d_jobs : Int32} {d_over : Int32} {d_clocks : Int32} {d_held : Bool} {d_kinds : Nat → Int32} {d_operands : Nat → Int32} {d_ties : Nat → Int32} {d_states : Nat → Int32} {d_gone : Nat → Int32} {d_toldIn : Nat → Int32} {d_broughtIn : Nat → Int32} {d_doneIn : Nat → Int32} {z_refusals : Nat → Int32} {p0 : Int32} {o : Bool} (h : f_X10_isMode p0 z_hasUnit = some o) : Std g l yX10_isMode (.code yX10_isMode cX10_isMode 2 (some .boolean) :: gw) rm_X10_isMode A [.ref (q 0), .int p0] (wX g q z_hasUnit z_hasImage t_length t_bytes x_width x_guard x_stages x_fold x_pipe x_near s_at o_lines n_at o_kinds o_operands o_ties u_width u_guard u_bits u_stages u_places u_near u_quarter u_eighth u_ln u_shifts u_angles u_gains u_undos u_digits r_x r_y r_z r_upBits r_steps r_first r_second v_width v_guard v_bits v_stages v_places v_near v_quarter v_eighth v_ln v_shifts v_angles v_gains v_undos v_digits k_x k_y k_z k_upBits k_steps k_first k_second b_jobs b_over b_clocks b_held b_kinds b_operands b_ties b_states b_gone b_toldIn b_broughtIn b_doneIn c_jobs c_over c_clocks c_held c_kinds c_operands c_ties c_states c_gone c_toldIn c_broughtIn c_doneIn d_jobs d_over d_clocks d_held d_kinds d_operands d_ties d_states d_gone d_toldIn d_broughtIn d_doneIn z_refusals) (wX g q z_hasUnit z_hasImage t_length t_bytes x_width x_guard x_stages x_fold x_pipe x_near s_at o_lines n_at o_kinds o_operands o_ties u_width u_guard u_bits u_stages u_places u_near u_quarter u_eighth u_ln u_shifts u_angles u_gains u_undos u_digits r_x r_y r_z r_upBits r_steps r_first r_second v_width v_guard v_bits v_stages v_places v_near v_quarter v_eighth v_ln v_shifts v_angles v_gains v_undos v_digits k_x k_y k_z k_upBits k_steps k_first k_second b_jobs b_over b_clocks b_held b_kinds b_operands b_ties b_states b_gone b_toldIn b_broughtIn b_doneIn c_jobs c_over c_clocks c_held c_kinds c_operands c_ties c_states c_gone c_toldIn c_broughtIn c_doneIn d_jobs d_over d_clocks d_held d_kinds d_operands d_ties d_states d_gone d_toldIn d_broughtIn d_doneIn z_refusals) (some (.int (bI o))) := by
  refine std_z (own := RX10) (by decide +kernel) rfl (Nat.le_of_ble_eq_true rfl) ?_
  intro p e s m args below meth c Q X ret H locs hP hS ls hl
  have hx := X.1
  have hb := X.2.1
  have hl : lv_has ls 2 [(0, .ref (q 0)), (1, .int p0)] := hl
  have ret : ∀ {H : Heap} {locs : List Loc} {pc : Nat} {ls : Array Slot} {v : Bool} , some (v) = some o → WP g A (wX g q z_hasUnit z_hasImage t_length t_bytes x_width x_guard x_stages x_fold x_pipe x_near s_at o_lines n_at o_kinds o_operands o_ties u_width u_guard u_bits u_stages u_places u_near u_quarter u_eighth u_ln u_shifts u_angles u_gains u_undos u_digits r_x r_y r_z r_upBits r_steps r_first r_second v_width v_guard v_bits v_stages v_places v_near v_quarter v_eighth v_ln v_shifts v_angles v_gains v_undos v_digits k_x k_y k_z k_upBits k_steps k_first k_second b_jobs b_over b_clocks b_held b_kinds b_operands b_ties b_states b_gone b_toldIn b_broughtIn b_doneIn c_jobs c_over c_clocks c_held c_kinds c_operands c_ties c_states c_gone c_toldIn c_broughtIn c_doneIn d_jobs d_over d_clocks d_held d_kinds d_operands d_ties d_states d_gone d_toldIn d_broughtIn d_doneIn z_refusals) H → va_S A s.heap H locs → decode cX10_isMode pc = .ok (.ireturn, 1) → W p l e rm_X10_isMode s m args below meth c H locs 0 0 Q (F0 m pc ls [.int (bI v)]) := by
    intro H locs pc ls v h hP hS hd
    cases h
    exact ret hP hS hd
  unfold f_X10_isMode at h
  refine lv_aload_n hx hb dX10_isMode_0 rfl (lv_at hl 0 rfl) ?_
  refine gf_X10_110_X_0 X hP dX10_isMode_1 ?_
  refine jx1 h (P := fun (v1 : Bool) => ∀ ls : Array Slot, lv_has ls 2 [] → W p l e rm_X10_isMode s m args below meth c H locs 0 0 Q (F0 m 21 ls [.int (bI v1)])) ?_ ?_
  · intro v1 h ls hl
    exact ret h hP hS dX10_isMode_21
  · intro J h
    refine rb_eq (tgt := 20) hx hb dX10_isMode_4 rfl (fun c4 => ?_) (fun c4 => ?_)
    · refine lv_iconst (v := 0) hx hb dX10_isMode_20 rfl ?_
      exact J _ (lt_in c4 h) ls (lv_sub hl [] rfl)
    · refine lv_iload_n hx hb dX10_isMode_7 rfl (lv_at hl 1 rfl) ?_
      refine lv_if_lt (tgt := 20) hx hb dX10_isMode_8 rfl (fun c8 => ?_) (fun c8 => ?_)
      · refine lv_iconst (v := 0) hx hb dX10_isMode_20 rfl ?_
        exact J _ (lt_ip c8 (lt_ip c4 h)) ls (lv_sub hl [] rfl)
      · refine lv_iload_n hx hb dX10_isMode_11 rfl (lv_at hl 1 rfl) ?_
        refine lv_iconst (v := 3) hx hb dX10_isMode_12 rfl ?_
        refine lv_icmp_ge (tgt := 20) hx hb dX10_isMode_13 rfl (fun c13 => ?_) (fun c13 => ?_)
        · refine lv_iconst (v := 0) hx hb dX10_isMode_20 rfl ?_
          exact J _ (lt_ip c13 (lt_in c8 (lt_ip c4 h))) ls (lv_sub hl [] rfl)
        · refine lv_iconst (v := 1) hx hb dX10_isMode_16 rfl ?_
          refine lv_goto (tgt := 21) hx hb dX10_isMode_17 rfl ?_
          exact J _ (lt_in c13 (lt_in c8 (lt_ip c4 h))) ls (lv_sub hl [] rfl)
abbrev rm_X10_stage : Room := { frames := 2, cells := 0, slots := 0, locals := 44 }
set_option maxRecDepth 100000 in
set_option maxHeartbeats 4000000 in
theorem c_X10_stage {g : gT} {l : Launch} {A : Nat → Prop} {q : Nat → Nat} {z_hasUnit : Bool} {z_hasImage : Bool} {t_length : Int32} {t_bytes : Nat → Int32} {x_width : Int32} {x_guard : Int32} {x_stages : Int32} {x_fold : Int32} {x_pipe : Bool} {x_near : Bool} {s_at : Int32} {o_lines : Int32} {n_at : Int32} {o_kinds : Nat → Int32} {o_operands : Nat → Int32} {o_ties : Nat → Int32} {u_width : Int32} {u_guard : Int32} {u_bits : Int32} {u_stages : Int32} {u_places : Int32} {u_near : Bool} {u_quarter : Int64} {u_eighth : Int64} {u_ln : Int64} {u_shifts : Nat → Int32} {u_angles : Nat → Int64} {u_gains : Nat → Int64} {u_undos : Nat → Int64} {u_digits : Nat → Int32} {r_x : Int64} {r_y : Int64} {r_z : Int64} {r_upBits : Int32} {r_steps : Int32} {r_first : Int64} {r_second : Int64} {v_width : Int32} {v_guard : Int32} {v_bits : Int32} {v_stages : Int32} {v_places : Int32} {v_near : Bool} {v_quarter : Int64} {v_eighth : Int64} {v_ln : Int64} {v_shifts : Nat → Int32} {v_angles : Nat → Int64} {v_gains : Nat → Int64} {v_undos : Nat → Int64} {v_digits : Nat → Int32} {k_x : Int64} {k_y : Int64} {k_z : Int64} {k_upBits : Int32} {k_steps : Int32} {k_first : Int64} {k_second : Int64} {b_jobs : Int32} {b_over : Int32} {b_clocks : Int32} {b_held : Bool} {b_kinds : Nat → Int32} {b_operands : Nat → Int32} {b_ties : Nat → Int32} {b_states : Nat → Int32} {b_gone : Nat → Int32} {b_toldIn : Nat → Int32} {b_broughtIn : Nat → Int32} {b_doneIn : Nat → Int32} {c_jobs : Int32} {c_over : Int32} {c_clocks : Int32} {c_held : Bool} {c_kinds : Nat → Int32} {c_operands : Nat → Int32} {c_ties : Nat → Int32} {c_states : Nat → Int32} {c_gone : Nat → Int32} {c_toldIn : Nat → Int32} {c_broughtIn : Nat → Int32} {c_doneIn : Nat → Int32} {d_jobs : Int32} {d_over : Int32} {d_clocks : Int32} {d_held : Bool} {d_kinds : Nat → Int32} {d_operands : Nat → Int32} {d_ties : Nat → Int32} {d_states : Nat → Int32} {d_gone : Nat → Int32} {d_toldIn : Nat → Int32} {d_broughtIn : Nat → Int32} {d_doneIn : Nat → Int32} {z_refusals : Nat → Int32} {p0 : Int32} {p1 : Int32} {p2 : Int32} {o : Int32} (h : f_X10_stage p0 p1 p2 z_hasUnit u_bits u_stages u_shifts u_angles = some o) : Std g l yX10_stage (.code yX10_stage cX10_stage 5 (some .int) :: gw) rm_X10_stage A [.ref (q 0), .int p0, .int p1, .int p2] (wX g q z_hasUnit z_hasImage t_length t_bytes x_width x_guard x_stages x_fold x_pipe x_near s_at o_lines n_at o_kinds o_operands o_ties u_width u_guard u_bits u_stages u_places u_near u_quarter u_eighth u_ln u_shifts u_angles u_gains u_undos u_digits r_x r_y r_z r_upBits r_steps r_first r_second v_width v_guard v_bits v_stages v_places v_near v_quarter v_eighth v_ln v_shifts v_angles v_gains v_undos v_digits k_x k_y k_z k_upBits k_steps k_first k_second b_jobs b_over b_clocks b_held b_kinds b_operands b_ties b_states b_gone b_toldIn b_broughtIn b_doneIn c_jobs c_over c_clocks c_held c_kinds c_operands c_ties c_states c_gone c_toldIn c_broughtIn c_doneIn d_jobs d_over d_clocks d_held d_kinds d_operands d_ties d_states d_gone d_toldIn d_broughtIn d_doneIn z_refusals) (wX g q z_hasUnit z_hasImage t_length t_bytes x_width x_guard x_stages x_fold x_pipe x_near s_at o_lines n_at o_kinds o_operands o_ties u_width u_guard u_bits u_stages u_places u_near u_quarter u_eighth u_ln u_shifts u_angles u_gains u_undos u_digits r_x r_y r_z r_upBits r_steps r_first r_second v_width v_guard v_bits v_stages v_places v_near v_quarter v_eighth v_ln v_shifts v_angles v_gains v_undos v_digits k_x k_y k_z k_upBits k_steps k_first k_second b_jobs b_over b_clocks b_held b_kinds b_operands b_ties b_states b_gone b_toldIn b_broughtIn b_doneIn c_jobs c_over c_clocks c_held c_kinds c_operands c_ties c_states c_gone c_toldIn c_broughtIn c_doneIn d_jobs d_over d_clocks d_held d_kinds d_operands d_ties d_states d_gone d_toldIn d_broughtIn d_doneIn z_refusals) (some (.int o)) := by
  refine std_i (own := RX10) (by decide +kernel) rfl (Nat.le_of_ble_eq_true rfl) ?_
  intro p e s m args below meth c Q X ret H locs hP hS ls hl
  have hx := X.1
  have hb := X.2.1
  have hl : lv_has ls 5 [(0, .ref (q 0)), (1, .int p0), (2, .int p1), (3, .int p2)] := hl
  have ret : ∀ {H : Heap} {locs : List Loc} {pc : Nat} {ls : Array Slot} {v : Int32} , some (v) = some o → WP g A (wX g q z_hasUnit z_hasImage t_length t_bytes x_width x_guard x_stages x_fold x_pipe x_near s_at o_lines n_at o_kinds o_operands o_ties u_width u_guard u_bits u_stages u_places u_near u_quarter u_eighth u_ln u_shifts u_angles u_gains u_undos u_digits r_x r_y r_z r_upBits r_steps r_first r_second v_width v_guard v_bits v_stages v_places v_near v_quarter v_eighth v_ln v_shifts v_angles v_gains v_undos v_digits k_x k_y k_z k_upBits k_steps k_first k_second b_jobs b_over b_clocks b_held b_kinds b_operands b_ties b_states b_gone b_toldIn b_broughtIn b_doneIn c_jobs c_over c_clocks c_held c_kinds c_operands c_ties c_states c_gone c_toldIn c_broughtIn c_doneIn d_jobs d_over d_clocks d_held d_kinds d_operands d_ties d_states d_gone d_toldIn d_broughtIn d_doneIn z_refusals) H → va_S A s.heap H locs → decode cX10_stage pc = .ok (.ireturn, 1) → W p l e rm_X10_stage s m args below meth c H locs 0 0 Q (F0 m pc ls [.int v]) := by
    intro H locs pc ls v h hP hS hd
    cases h
    exact ret hP hS hd
  have b23 : ∀  (H : Heap) (locs : List Loc) (ls : Array Slot), f_X10_stage_b23  z_hasUnit u_bits u_stages u_shifts u_angles   = some o → WP g A (wX g q z_hasUnit z_hasImage t_length t_bytes x_width x_guard x_stages x_fold x_pipe x_near s_at o_lines n_at o_kinds o_operands o_ties u_width u_guard u_bits u_stages u_places u_near u_quarter u_eighth u_ln u_shifts u_angles u_gains u_undos u_digits r_x r_y r_z r_upBits r_steps r_first r_second v_width v_guard v_bits v_stages v_places v_near v_quarter v_eighth v_ln v_shifts v_angles v_gains v_undos v_digits k_x k_y k_z k_upBits k_steps k_first k_second b_jobs b_over b_clocks b_held b_kinds b_operands b_ties b_states b_gone b_toldIn b_broughtIn b_doneIn c_jobs c_over c_clocks c_held c_kinds c_operands c_ties c_states c_gone c_toldIn c_broughtIn c_doneIn d_jobs d_over d_clocks d_held d_kinds d_operands d_ties d_states d_gone d_toldIn d_broughtIn d_doneIn z_refusals) H → va_S A s.heap H locs → lv_has ls 5 [] → W p l e rm_X10_stage s m args below meth c H locs 0 0 Q (F0 m 23 ls []) := by
    intro   H locs ls h hP hS hl
    unfold f_X10_stage_b23 at h
    refine lv_iconst (v := (-1)) hx hb dX10_stage_23 rfl ?_
    exact ret h hP hS dX10_stage_24
  unfold f_X10_stage at h
  refine lv_aload_n hx hb dX10_stage_0 rfl (lv_at hl 0 rfl) ?_
  refine lv_iload_n hx hb dX10_stage_1 rfl (lv_at hl 1 rfl) ?_
  obtain ⟨o1, hco1, h⟩ := bd_of h
  refine kV (rest := []) X dX10_stage_2 wd_3_90 mw_X10_isMode wd_3_92 wp_3_0 hP (k0 := 0) rfl rfl rfl hS (fun _ z => z) (c_X10_isMode hco1) rfl hl.1 rfl (Nat.le_of_ble_eq_true rfl) rfl rfl ⟨Nat.le_of_ble_eq_true rfl, Nat.le_of_ble_eq_true rfl⟩ (fun H locs hP _ _ hS => ?_)
  refine W.eq (g2 := F0 m 5 ls [.int (bI o1)]) rfl ?_
  refine rb_eq (tgt := 23) hx hb dX10_stage_5 rfl (fun c5 => ?_) (fun c5 => ?_)
  · have h := br_n c5 h
    exact b23    _ _ _ h hP hS (lv_sub hl [] rfl)
  · have h := br_p c5 h
    refine lv_iload_n hx hb dX10_stage_8 rfl (lv_at hl 2 rfl) ?_
    refine lv_if_lt (tgt := 23) hx hb dX10_stage_9 rfl (fun c9 => ?_) (fun c9 => ?_)
    · have h := br_p c9 h
      exact b23    _ _ _ h hP hS (lv_sub hl [] rfl)
    · have h := br_n c9 h
      refine lv_iload_n hx hb dX10_stage_12 rfl (lv_at hl 2 rfl) ?_
      refine lv_aload_n hx hb dX10_stage_13 rfl (lv_at hl 0 rfl) ?_
      refine gf_X10_37_X_0 X hP dX10_stage_14 ?_
      refine gf_X10_116_X_10 X hP dX10_stage_17 ?_
      refine lv_icmp_lt (tgt := 25) hx hb dX10_stage_20 rfl (fun c20 => ?_) (fun c20 => ?_)
      · have h := br_p c20 h
        refine lv_iload_n hx hb dX10_stage_25 rfl (lv_at hl 1 rfl) ?_
        refine lv_bipush (v := 24) hx hb dX10_stage_26 rfl ?_
        refine lv_imul hx hb dX10_stage_28 ?_
        refine lv_iload_n hx hb dX10_stage_29 rfl (lv_at hl 2 rfl) ?_
        refine lv_iadd hx hb dX10_stage_30 ?_
        refine lv_topi (fun v2 ev2 => ?_)
        have h := lt_at ev2 h
        refine lv_istore (lv' := [(4, .int v2), (0, .ref (q 0)), (1, .int p0), (2, .int p1), (3, .int p2)]) hx hb dX10_stage_31 hl (by decide) rfl (fun ls hl => ?_)
        refine lv_iload_n hx hb dX10_stage_33 rfl (lv_at hl 4 rfl) ?_
        by_cases c34_0 : p2 = 0
        · have h := br_p c34_0 h
          refine lv_tableIn (off := 26) (tgt := 60) hx hb dX10_stage_34 (by rw [c34_0]; decide) (by rw [c34_0]; decide) (by rw [c34_0]; rfl) rfl ?_
          refine lv_aload_n hx hb dX10_stage_60 rfl (lv_at hl 1 rfl) ?_
          refine gf_X10_37_X_0 X hP dX10_stage_61 ?_
          refine gf_X10_151_X_10 X hP dX10_stage_64 ?_
          refine lv_iload hx hb dX10_stage_67 (lv_at hl 0 rfl) ?_
          obtain ⟨hi69, h⟩ := gv_of h
          refine al_X_11 X hP hi69 dX10_stage_69 ?_
          exact ret h hP hS dX10_stage_70
        have h := br_n c34_0 h
        by_cases c34_1 : p2 = 1
        · have h := br_p c34_1 h
          refine lv_tableIn (off := 37) (tgt := 71) hx hb dX10_stage_34 (by rw [c34_1]; decide) (by rw [c34_1]; decide) (by rw [c34_1]; rfl) rfl ?_
          refine lv_aload_n hx hb dX10_stage_71 rfl (lv_at hl 1 rfl) ?_
          refine gf_X10_37_X_0 X hP dX10_stage_72 ?_
          refine gf_X10_154_X_10 X hP dX10_stage_75 ?_
          refine lv_iload hx hb dX10_stage_78 (lv_at hl 0 rfl) ?_
          obtain ⟨hi80, h⟩ := gv_of h
          refine al_X_12 X hP hi80 dX10_stage_80 ?_
          refine lv_l2i hx hb dX10_stage_81 rfl ?_
          exact ret h hP hS dX10_stage_82
        have h := br_n c34_1 h
        by_cases c34_2 : p2 = 2
        · have h := br_p c34_2 h
          refine lv_tableIn (off := 49) (tgt := 83) hx hb dX10_stage_34 (by rw [c34_2]; decide) (by rw [c34_2]; decide) (by rw [c34_2]; rfl) rfl ?_
          refine lv_aload_n hx hb dX10_stage_83 rfl (lv_at hl 1 rfl) ?_
          refine gf_X10_37_X_0 X hP dX10_stage_84 ?_
          refine lv_iload_n hx hb dX10_stage_87 rfl (lv_at hl 2 rfl) ?_
          refine lv_iload_n hx hb dX10_stage_88 rfl (lv_at hl 3 rfl) ?_
          obtain ⟨o3, hco3, h⟩ := bd_of h
          obtain ⟨hF, hFA⟩ := fo_X_Unit_10 hP
          refine kVN (rest := []) X dX10_stage_89 wd_3_94 mw_X8_needsWord wd_3_96 wp_3_1 hF (k0 := 0) rfl rfl rfl hS hFA (c_X8_needsWord hco3) rfl hl.1 rfl (Nat.le_of_ble_eq_true rfl) rfl rfl ⟨Nat.le_of_ble_eq_true rfl, Nat.le_of_ble_eq_true rfl⟩ (fun H locs hF1 _ hk hS => ?_)
          have hP := un_X_Unit_10 hP hk hF1
          refine W.eq (g2 := F0 m 92 ls [.int (bI o3)]) rfl ?_
          refine jx1 h (P := fun (v4 : Bool) => ∀ ls : Array Slot, lv_has ls 5 [] → W p l e rm_X10_stage s m args below meth c H locs 0 0 Q (F0 m 100 ls [.int (bI v4)])) ?_ ?_
          · intro v4 h ls hl
            exact ret h hP hS dX10_stage_100
          · intro J h
            refine rb_eq (tgt := 99) hx hb dX10_stage_92 rfl (fun c92 => ?_) (fun c92 => ?_)
            · refine lv_iconst (v := 1) hx hb dX10_stage_99 rfl ?_
              exact J _ (lt_in c92 h) ls (lv_sub hl [] rfl)
            · refine lv_iconst (v := 0) hx hb dX10_stage_95 rfl ?_
              refine lv_goto (tgt := 100) hx hb dX10_stage_96 rfl ?_
              exact J _ (lt_ip c92 h) ls (lv_sub hl [] rfl)
        have h := br_n c34_2 h
        refine lv_tableOut (tgt := 101) hx hb dX10_stage_34 (by have := lv_neT (a := 0) c34_0 rfl; have := lv_neT (a := 1) c34_1 rfl; have := lv_neT (a := 2) c34_2 rfl; omega) rfl ?_
        refine lv_iconst (v := (-1)) hx hb dX10_stage_101 rfl ?_
        exact ret h hP hS dX10_stage_102
      · have h := br_n c20 h
        exact b23    _ _ _ h hP hS (lv_sub hl [] rfl)
abbrev rm_X10_mode : Room := { frames := 4, cells := 0, slots := 0, locals := 91 }
set_option maxRecDepth 100000 in
set_option maxHeartbeats 4000000 in
theorem c_X10_mode {g : gT} {l : Launch} {A : Nat → Prop} {q : Nat → Nat} {z_hasUnit : Bool} {z_hasImage : Bool} {t_length : Int32} {t_bytes : Nat → Int32} {x_width : Int32} {x_guard : Int32} {x_stages : Int32} {x_fold : Int32} {x_pipe : Bool} {x_near : Bool} {s_at : Int32} {o_lines : Int32} {n_at : Int32} {o_kinds : Nat → Int32} {o_operands : Nat → Int32} {o_ties : Nat → Int32} {u_width : Int32} {u_guard : Int32} {u_bits : Int32} {u_stages : Int32} {u_places : Int32} {u_near : Bool} {u_quarter : Int64} {u_eighth : Int64} {u_ln : Int64} {u_shifts : Nat → Int32} {u_angles : Nat → Int64} {u_gains : Nat → Int64} {u_undos : Nat → Int64} {u_digits : Nat → Int32} {r_x : Int64} {r_y : Int64} {r_z : Int64} {r_upBits : Int32} {r_steps : Int32} {r_first : Int64} {r_second : Int64} {v_width : Int32} {v_guard : Int32} {v_bits : Int32} {v_stages : Int32} {v_places : Int32} {v_near : Bool} {v_quarter : Int64} {v_eighth : Int64} {v_ln : Int64} {v_shifts : Nat → Int32} {v_angles : Nat → Int64} {v_gains : Nat → Int64} {v_undos : Nat → Int64} {v_digits : Nat → Int32} {k_x : Int64} {k_y : Int64} {k_z : Int64} {k_upBits : Int32} {k_steps : Int32} {k_first : Int64} {k_second : Int64} {b_jobs : Int32} {b_over : Int32} {b_clocks : Int32} {b_held : Bool} {b_kinds : Nat → Int32} {b_operands : Nat → Int32} {b_ties : Nat → Int32} {b_states : Nat → Int32} {b_gone : Nat → Int32} {b_toldIn : Nat → Int32} {b_broughtIn : Nat → Int32} {b_doneIn : Nat → Int32} {c_jobs : Int32} {c_over : Int32} {c_clocks : Int32} {c_held : Bool} {c_kinds : Nat → Int32} {c_operands : Nat → Int32} {c_ties : Nat → Int32} {c_states : Nat → Int32} {c_gone : Nat → Int32} {c_toldIn : Nat → Int32} {c_broughtIn : Nat → Int32} {c_doneIn : Nat → Int32} {d_jobs : Int32} {d_over : Int32} {d_clocks : Int32} {d_held : Bool} {d_kinds : Nat → Int32} {d_operands : Nat → Int32} {d_ties : Nat → Int32} {d_states : Nat → Int32} {d_gone : Nat → Int32} {d_toldIn : Nat → Int32} {d_broughtIn : Nat → Int32} {d_doneIn : Nat → Int32} {z_refusals : Nat → Int32} {p0 : Int32} {p1 : Int32} {o : Int32} (h : f_X10_mode p0 p1 z_hasUnit u_bits u_stages u_shifts u_angles u_gains u_undos u_digits = some o) : Std g l yX10_mode (.code yX10_mode cX10_mode 3 (some .int) :: gw) rm_X10_mode A [.ref (q 0), .int p0, .int p1] (wX g q z_hasUnit z_hasImage t_length t_bytes x_width x_guard x_stages x_fold x_pipe x_near s_at o_lines n_at o_kinds o_operands o_ties u_width u_guard u_bits u_stages u_places u_near u_quarter u_eighth u_ln u_shifts u_angles u_gains u_undos u_digits r_x r_y r_z r_upBits r_steps r_first r_second v_width v_guard v_bits v_stages v_places v_near v_quarter v_eighth v_ln v_shifts v_angles v_gains v_undos v_digits k_x k_y k_z k_upBits k_steps k_first k_second b_jobs b_over b_clocks b_held b_kinds b_operands b_ties b_states b_gone b_toldIn b_broughtIn b_doneIn c_jobs c_over c_clocks c_held c_kinds c_operands c_ties c_states c_gone c_toldIn c_broughtIn c_doneIn d_jobs d_over d_clocks d_held d_kinds d_operands d_ties d_states d_gone d_toldIn d_broughtIn d_doneIn z_refusals) (wX g q z_hasUnit z_hasImage t_length t_bytes x_width x_guard x_stages x_fold x_pipe x_near s_at o_lines n_at o_kinds o_operands o_ties u_width u_guard u_bits u_stages u_places u_near u_quarter u_eighth u_ln u_shifts u_angles u_gains u_undos u_digits r_x r_y r_z r_upBits r_steps r_first r_second v_width v_guard v_bits v_stages v_places v_near v_quarter v_eighth v_ln v_shifts v_angles v_gains v_undos v_digits k_x k_y k_z k_upBits k_steps k_first k_second b_jobs b_over b_clocks b_held b_kinds b_operands b_ties b_states b_gone b_toldIn b_broughtIn b_doneIn c_jobs c_over c_clocks c_held c_kinds c_operands c_ties c_states c_gone c_toldIn c_broughtIn c_doneIn d_jobs d_over d_clocks d_held d_kinds d_operands d_ties d_states d_gone d_toldIn d_broughtIn d_doneIn z_refusals) (some (.int o)) := by
  refine std_i (own := RX10) (by decide +kernel) rfl (Nat.le_of_ble_eq_true rfl) ?_
  intro p e s m args below meth c Q X ret H locs hP hS ls hl
  have hx := X.1
  have hb := X.2.1
  have hl : lv_has ls 3 [(0, .ref (q 0)), (1, .int p0), (2, .int p1)] := hl
  have ret : ∀ {H : Heap} {locs : List Loc} {pc : Nat} {ls : Array Slot} {v : Int32} , some (v) = some o → WP g A (wX g q z_hasUnit z_hasImage t_length t_bytes x_width x_guard x_stages x_fold x_pipe x_near s_at o_lines n_at o_kinds o_operands o_ties u_width u_guard u_bits u_stages u_places u_near u_quarter u_eighth u_ln u_shifts u_angles u_gains u_undos u_digits r_x r_y r_z r_upBits r_steps r_first r_second v_width v_guard v_bits v_stages v_places v_near v_quarter v_eighth v_ln v_shifts v_angles v_gains v_undos v_digits k_x k_y k_z k_upBits k_steps k_first k_second b_jobs b_over b_clocks b_held b_kinds b_operands b_ties b_states b_gone b_toldIn b_broughtIn b_doneIn c_jobs c_over c_clocks c_held c_kinds c_operands c_ties c_states c_gone c_toldIn c_broughtIn c_doneIn d_jobs d_over d_clocks d_held d_kinds d_operands d_ties d_states d_gone d_toldIn d_broughtIn d_doneIn z_refusals) H → va_S A s.heap H locs → decode cX10_mode pc = .ok (.ireturn, 1) → W p l e rm_X10_mode s m args below meth c H locs 0 0 Q (F0 m pc ls [.int v]) := by
    intro H locs pc ls v h hP hS hd
    cases h
    exact ret hP hS hd
  unfold f_X10_mode at h
  refine lv_aload_n hx hb dX10_mode_0 rfl (lv_at hl 0 rfl) ?_
  refine lv_iload_n hx hb dX10_mode_1 rfl (lv_at hl 1 rfl) ?_
  obtain ⟨o1, hco1, h⟩ := bd_of h
  refine kV (rest := []) X dX10_mode_2 wd_3_90 mw_X10_isMode wd_3_92 wp_3_0 hP (k0 := 0) rfl rfl rfl hS (fun _ z => z) (c_X10_isMode hco1) rfl hl.1 rfl (Nat.le_of_ble_eq_true rfl) rfl rfl ⟨Nat.le_of_ble_eq_true rfl, Nat.le_of_ble_eq_true rfl⟩ (fun H locs hP _ _ hS => ?_)
  refine W.eq (g2 := F0 m 5 ls [.int (bI o1)]) rfl ?_
  refine rb_ne (tgt := 10) hx hb dX10_mode_5 rfl (fun c5 => ?_) (fun c5 => ?_)
  · have h := br_p c5 h
    refine lv_iload_n hx hb dX10_mode_10 rfl (lv_at hl 2 rfl) ?_
    by_cases c11_0 : p1 = 0
    · have h := br_p c11_0 h
      refine lv_tableIn (off := 33) (tgt := 44) hx hb dX10_mode_11 (by rw [c11_0]; decide) (by rw [c11_0]; decide) (by rw [c11_0]; rfl) rfl ?_
      refine lv_aload_n hx hb dX10_mode_44 rfl (lv_at hl 0 rfl) ?_
      refine gf_X10_37_X_0 X hP dX10_mode_45 ?_
      refine gf_X10_162_X_10 X hP dX10_mode_48 ?_
      refine lv_iload_n hx hb dX10_mode_51 rfl (lv_at hl 1 rfl) ?_
      obtain ⟨hi52, h⟩ := gv_of h
      refine al_X_13 X hP hi52 dX10_mode_52 ?_
      refine lv_l2i hx hb dX10_mode_53 rfl ?_
      exact ret h hP hS dX10_mode_54
    have h := br_n c11_0 h
    by_cases c11_1 : p1 = 1
    · have h := br_p c11_1 h
      refine lv_tableIn (off := 44) (tgt := 55) hx hb dX10_mode_11 (by rw [c11_1]; decide) (by rw [c11_1]; decide) (by rw [c11_1]; rfl) rfl ?_
      refine lv_aload_n hx hb dX10_mode_55 rfl (lv_at hl 0 rfl) ?_
      refine gf_X10_37_X_0 X hP dX10_mode_56 ?_
      refine gf_X10_165_X_10 X hP dX10_mode_59 ?_
      refine lv_iload_n hx hb dX10_mode_62 rfl (lv_at hl 1 rfl) ?_
      obtain ⟨hi63, h⟩ := gv_of h
      refine al_X_14 X hP hi63 dX10_mode_63 ?_
      refine lv_l2i hx hb dX10_mode_64 rfl ?_
      exact ret h hP hS dX10_mode_65
    have h := br_n c11_1 h
    by_cases c11_2 : p1 = 2
    · have h := br_p c11_2 h
      refine lv_tableIn (off := 55) (tgt := 66) hx hb dX10_mode_11 (by rw [c11_2]; decide) (by rw [c11_2]; decide) (by rw [c11_2]; rfl) rfl ?_
      refine lv_aload_n hx hb dX10_mode_66 rfl (lv_at hl 0 rfl) ?_
      refine gf_X10_37_X_0 X hP dX10_mode_67 ?_
      refine lv_iload_n hx hb dX10_mode_70 rfl (lv_at hl 1 rfl) ?_
      obtain ⟨o2, hco2, h⟩ := bd_of h
      obtain ⟨hF, hFA⟩ := fo_X_Unit_10 hP
      refine kVN (rest := []) X dX10_mode_71 wd_3_102 mw_X8_digitsUsed wd_3_104 wp_3_2 hF (k0 := 0) rfl rfl rfl hS hFA (c_X8_digitsUsed hco2) rfl hl.1 rfl (Nat.le_of_ble_eq_true rfl) rfl rfl ⟨Nat.le_of_ble_eq_true rfl, Nat.le_of_ble_eq_true rfl⟩ (fun H locs hF1 _ hk hS => ?_)
      have hP := un_X_Unit_10 hP hk hF1
      refine W.eq (g2 := F0 m 74 ls [.int o2]) rfl ?_
      exact ret h hP hS dX10_mode_74
    have h := br_n c11_2 h
    by_cases c11_3 : p1 = 3
    · have h := br_p c11_3 h
      refine lv_tableIn (off := 64) (tgt := 75) hx hb dX10_mode_11 (by rw [c11_3]; decide) (by rw [c11_3]; decide) (by rw [c11_3]; rfl) rfl ?_
      refine lv_aload_n hx hb dX10_mode_75 rfl (lv_at hl 0 rfl) ?_
      refine gf_X10_37_X_0 X hP dX10_mode_76 ?_
      refine lv_iload_n hx hb dX10_mode_79 rfl (lv_at hl 1 rfl) ?_
      obtain ⟨o3, hco3, h⟩ := bd_of h
      obtain ⟨hF, hFA⟩ := fo_X_Unit_10 hP
      refine kVN (rest := []) X dX10_mode_80 wd_3_106 mw_X8_words wd_3_108 wp_3_3 hF (k0 := 0) rfl rfl rfl hS hFA (c_X8_words hco3) rfl hl.1 rfl (Nat.le_of_ble_eq_true rfl) rfl rfl ⟨Nat.le_of_ble_eq_true rfl, Nat.le_of_ble_eq_true rfl⟩ (fun H locs hF1 _ hk hS => ?_)
      have hP := un_X_Unit_10 hP hk hF1
      refine W.eq (g2 := F0 m 83 ls [.int o3]) rfl ?_
      exact ret h hP hS dX10_mode_83
    have h := br_n c11_3 h
    by_cases c11_4 : p1 = 4
    · have h := br_p c11_4 h
      refine lv_tableIn (off := 73) (tgt := 84) hx hb dX10_mode_11 (by rw [c11_4]; decide) (by rw [c11_4]; decide) (by rw [c11_4]; rfl) rfl ?_
      refine lv_aload_n hx hb dX10_mode_84 rfl (lv_at hl 0 rfl) ?_
      refine gf_X10_37_X_0 X hP dX10_mode_85 ?_
      refine lv_iload_n hx hb dX10_mode_88 rfl (lv_at hl 1 rfl) ?_
      obtain ⟨o4, hco4, h⟩ := bd_of h
      obtain ⟨hF, hFA⟩ := fo_X_Unit_10 hP
      refine kVN (rest := []) X dX10_mode_89 wd_3_115 mw_X8_firstWithoutWords wd_3_117 wp_3_5 hF (k0 := 0) rfl rfl rfl hS hFA (c_X8_firstWithoutWords hco4) rfl hl.1 rfl (Nat.le_of_ble_eq_true rfl) rfl rfl ⟨Nat.le_of_ble_eq_true rfl, Nat.le_of_ble_eq_true rfl⟩ (fun H locs hF1 _ hk hS => ?_)
      have hP := un_X_Unit_10 hP hk hF1
      refine W.eq (g2 := F0 m 92 ls [.int o4]) rfl ?_
      exact ret h hP hS dX10_mode_92
    have h := br_n c11_4 h
    refine lv_tableOut (tgt := 93) hx hb dX10_mode_11 (by have := lv_neT (a := 0) c11_0 rfl; have := lv_neT (a := 1) c11_1 rfl; have := lv_neT (a := 2) c11_2 rfl; have := lv_neT (a := 3) c11_3 rfl; have := lv_neT (a := 4) c11_4 rfl; omega) rfl ?_
    refine lv_iconst (v := (-1)) hx hb dX10_mode_93 rfl ?_
    exact ret h hP hS dX10_mode_94
  · have h := br_n c5 h
    refine lv_iconst (v := (-1)) hx hb dX10_mode_8 rfl ?_
    exact ret h hP hS dX10_mode_9
abbrev rm_X10_digit : Room := { frames := 1, cells := 0, slots := 0, locals := 21 }
set_option maxRecDepth 100000 in
set_option maxHeartbeats 4000000 in
theorem c_X10_digit {g : gT} {l : Launch} {A : Nat → Prop} {q : Nat → Nat} {z_hasUnit : Bool} {z_hasImage : Bool} {t_length : Int32} {t_bytes : Nat → Int32} {x_width : Int32} {x_guard : Int32} {x_stages : Int32} {x_fold : Int32} {x_pipe : Bool} {x_near : Bool} {s_at : Int32} {o_lines : Int32} {n_at : Int32} {o_kinds : Nat → Int32} {o_operands : Nat → Int32} {o_ties : Nat → Int32} {u_width : Int32} {u_guard : Int32} {u_bits : Int32} {u_stages : Int32} {u_places : Int32} {u_near : Bool} {u_quarter : Int64} {u_eighth : Int64} {u_ln : Int64} {u_shifts : Nat → Int32} {u_angles : Nat → Int64} {u_gains : Nat → Int64} {u_undos : Nat → Int64} {u_digits : Nat → Int32} {r_x : Int64} {r_y : Int64} {r_z : Int64} {r_upBits : Int32} {r_steps : Int32} {r_first : Int64} {r_second : Int64} {v_width : Int32} {v_guard : Int32} {v_bits : Int32} {v_stages : Int32} {v_places : Int32} {v_near : Bool} {v_quarter : Int64} {v_eighth : Int64} {v_ln : Int64} {v_shifts : Nat → Int32} {v_angles : Nat → Int64} {v_gains : Nat → Int64} {v_undos : Nat → Int64} {v_digits : Nat → Int32} {k_x : Int64} {k_y : Int64} {k_z : Int64} {k_upBits : Int32} {k_steps : Int32} {k_first : Int64} {k_second : Int64} {b_jobs : Int32} {b_over : Int32} {b_clocks : Int32} {b_held : Bool} {b_kinds : Nat → Int32} {b_operands : Nat → Int32} {b_ties : Nat → Int32} {b_states : Nat → Int32} {b_gone : Nat → Int32} {b_toldIn : Nat → Int32} {b_broughtIn : Nat → Int32} {b_doneIn : Nat → Int32} {c_jobs : Int32} {c_over : Int32} {c_clocks : Int32} {c_held : Bool} {c_kinds : Nat → Int32} {c_operands : Nat → Int32} {c_ties : Nat → Int32} {c_states : Nat → Int32} {c_gone : Nat → Int32} {c_toldIn : Nat → Int32} {c_broughtIn : Nat → Int32} {c_doneIn : Nat → Int32} {d_jobs : Int32} {d_over : Int32} {d_clocks : Int32} {d_held : Bool} {d_kinds : Nat → Int32} {d_operands : Nat → Int32} {d_ties : Nat → Int32} {d_states : Nat → Int32} {d_gone : Nat → Int32} {d_toldIn : Nat → Int32} {d_broughtIn : Nat → Int32} {d_doneIn : Nat → Int32} {z_refusals : Nat → Int32} {p0 : Int32} {p1 : Int32} {o : Int32} (h : f_X10_digit p0 p1 z_hasUnit u_digits = some o) : Std g l yX10_digit (.code yX10_digit cX10_digit 3 (some .int) :: gw) rm_X10_digit A [.ref (q 0), .int p0, .int p1] (wX g q z_hasUnit z_hasImage t_length t_bytes x_width x_guard x_stages x_fold x_pipe x_near s_at o_lines n_at o_kinds o_operands o_ties u_width u_guard u_bits u_stages u_places u_near u_quarter u_eighth u_ln u_shifts u_angles u_gains u_undos u_digits r_x r_y r_z r_upBits r_steps r_first r_second v_width v_guard v_bits v_stages v_places v_near v_quarter v_eighth v_ln v_shifts v_angles v_gains v_undos v_digits k_x k_y k_z k_upBits k_steps k_first k_second b_jobs b_over b_clocks b_held b_kinds b_operands b_ties b_states b_gone b_toldIn b_broughtIn b_doneIn c_jobs c_over c_clocks c_held c_kinds c_operands c_ties c_states c_gone c_toldIn c_broughtIn c_doneIn d_jobs d_over d_clocks d_held d_kinds d_operands d_ties d_states d_gone d_toldIn d_broughtIn d_doneIn z_refusals) (wX g q z_hasUnit z_hasImage t_length t_bytes x_width x_guard x_stages x_fold x_pipe x_near s_at o_lines n_at o_kinds o_operands o_ties u_width u_guard u_bits u_stages u_places u_near u_quarter u_eighth u_ln u_shifts u_angles u_gains u_undos u_digits r_x r_y r_z r_upBits r_steps r_first r_second v_width v_guard v_bits v_stages v_places v_near v_quarter v_eighth v_ln v_shifts v_angles v_gains v_undos v_digits k_x k_y k_z k_upBits k_steps k_first k_second b_jobs b_over b_clocks b_held b_kinds b_operands b_ties b_states b_gone b_toldIn b_broughtIn b_doneIn c_jobs c_over c_clocks c_held c_kinds c_operands c_ties c_states c_gone c_toldIn c_broughtIn c_doneIn d_jobs d_over d_clocks d_held d_kinds d_operands d_ties d_states d_gone d_toldIn d_broughtIn d_doneIn z_refusals) (some (.int o)) := by
  refine std_i (own := RX10) (by decide +kernel) rfl (Nat.le_of_ble_eq_true rfl) ?_
  intro p e s m args below meth c Q X ret H locs hP hS ls hl
  have hx := X.1
  have hb := X.2.1
  have hl : lv_has ls 3 [(0, .ref (q 0)), (1, .int p0), (2, .int p1)] := hl
  have ret : ∀ {H : Heap} {locs : List Loc} {pc : Nat} {ls : Array Slot} {v : Int32} , some (v) = some o → WP g A (wX g q z_hasUnit z_hasImage t_length t_bytes x_width x_guard x_stages x_fold x_pipe x_near s_at o_lines n_at o_kinds o_operands o_ties u_width u_guard u_bits u_stages u_places u_near u_quarter u_eighth u_ln u_shifts u_angles u_gains u_undos u_digits r_x r_y r_z r_upBits r_steps r_first r_second v_width v_guard v_bits v_stages v_places v_near v_quarter v_eighth v_ln v_shifts v_angles v_gains v_undos v_digits k_x k_y k_z k_upBits k_steps k_first k_second b_jobs b_over b_clocks b_held b_kinds b_operands b_ties b_states b_gone b_toldIn b_broughtIn b_doneIn c_jobs c_over c_clocks c_held c_kinds c_operands c_ties c_states c_gone c_toldIn c_broughtIn c_doneIn d_jobs d_over d_clocks d_held d_kinds d_operands d_ties d_states d_gone d_toldIn d_broughtIn d_doneIn z_refusals) H → va_S A s.heap H locs → decode cX10_digit pc = .ok (.ireturn, 1) → W p l e rm_X10_digit s m args below meth c H locs 0 0 Q (F0 m pc ls [.int v]) := by
    intro H locs pc ls v h hP hS hd
    cases h
    exact ret hP hS hd
  have b18 : ∀  (H : Heap) (locs : List Loc) (ls : Array Slot), f_X10_digit_b18  z_hasUnit u_digits   = some o → WP g A (wX g q z_hasUnit z_hasImage t_length t_bytes x_width x_guard x_stages x_fold x_pipe x_near s_at o_lines n_at o_kinds o_operands o_ties u_width u_guard u_bits u_stages u_places u_near u_quarter u_eighth u_ln u_shifts u_angles u_gains u_undos u_digits r_x r_y r_z r_upBits r_steps r_first r_second v_width v_guard v_bits v_stages v_places v_near v_quarter v_eighth v_ln v_shifts v_angles v_gains v_undos v_digits k_x k_y k_z k_upBits k_steps k_first k_second b_jobs b_over b_clocks b_held b_kinds b_operands b_ties b_states b_gone b_toldIn b_broughtIn b_doneIn c_jobs c_over c_clocks c_held c_kinds c_operands c_ties c_states c_gone c_toldIn c_broughtIn c_doneIn d_jobs d_over d_clocks d_held d_kinds d_operands d_ties d_states d_gone d_toldIn d_broughtIn d_doneIn z_refusals) H → va_S A s.heap H locs → lv_has ls 3 [] → W p l e rm_X10_digit s m args below meth c H locs 0 0 Q (F0 m 18 ls []) := by
    intro   H locs ls h hP hS hl
    unfold f_X10_digit_b18 at h
    refine lv_ldc (v := (-2147483648)) hx hb X.2.2.2.1 (X.2.2.2.2.1 _ wd_3_123) dX10_digit_18 ?_
    exact ret h hP hS dX10_digit_20
  unfold f_X10_digit at h
  refine lv_aload_n hx hb dX10_digit_0 rfl (lv_at hl 0 rfl) ?_
  refine lv_iload_n hx hb dX10_digit_1 rfl (lv_at hl 1 rfl) ?_
  obtain ⟨o1, hco1, h⟩ := bd_of h
  refine kV (rest := []) X dX10_digit_2 wd_3_90 mw_X10_isMode wd_3_92 wp_3_0 hP (k0 := 0) rfl rfl rfl hS (fun _ z => z) (c_X10_isMode hco1) rfl hl.1 rfl (Nat.le_of_ble_eq_true rfl) rfl rfl ⟨Nat.le_of_ble_eq_true rfl, Nat.le_of_ble_eq_true rfl⟩ (fun H locs hP _ _ hS => ?_)
  refine W.eq (g2 := F0 m 5 ls [.int (bI o1)]) rfl ?_
  refine rb_eq (tgt := 18) hx hb dX10_digit_5 rfl (fun c5 => ?_) (fun c5 => ?_)
  · have h := br_n c5 h
    exact b18    _ _ _ h hP hS (lv_sub hl [] rfl)
  · have h := br_p c5 h
    refine lv_iload_n hx hb dX10_digit_8 rfl (lv_at hl 2 rfl) ?_
    refine lv_if_lt (tgt := 18) hx hb dX10_digit_9 rfl (fun c9 => ?_) (fun c9 => ?_)
    · have h := br_p c9 h
      exact b18    _ _ _ h hP hS (lv_sub hl [] rfl)
    · have h := br_n c9 h
      refine lv_iload_n hx hb dX10_digit_12 rfl (lv_at hl 2 rfl) ?_
      refine lv_bipush (v := 32) hx hb dX10_digit_13 rfl ?_
      refine lv_icmp_lt (tgt := 21) hx hb dX10_digit_15 rfl (fun c15 => ?_) (fun c15 => ?_)
      · have h := br_p c15 h
        refine lv_aload_n hx hb dX10_digit_21 rfl (lv_at hl 0 rfl) ?_
        refine gf_X10_37_X_0 X hP dX10_digit_22 ?_
        refine gf_X10_178_X_10 X hP dX10_digit_25 ?_
        refine lv_iload_n hx hb dX10_digit_28 rfl (lv_at hl 1 rfl) ?_
        refine lv_bipush (v := 32) hx hb dX10_digit_29 rfl ?_
        refine lv_imul hx hb dX10_digit_31 ?_
        refine lv_iload_n hx hb dX10_digit_32 rfl (lv_at hl 2 rfl) ?_
        refine lv_iadd hx hb dX10_digit_33 ?_
        obtain ⟨hi34, h⟩ := gv_of h
        refine al_X_15 X hP hi34 dX10_digit_34 ?_
        exact ret h hP hS dX10_digit_35
      · have h := br_n c15 h
        exact b18    _ _ _ h hP hS (lv_sub hl [] rfl)
abbrev rm_X10_takenOut : Room := { frames := 2, cells := 0, slots := 0, locals := 50 }
set_option maxRecDepth 100000 in
set_option maxHeartbeats 4000000 in
theorem c_X10_takenOut {g : gT} {l : Launch} {A : Nat → Prop} {q : Nat → Nat} {z_hasUnit : Bool} {z_hasImage : Bool} {t_length : Int32} {t_bytes : Nat → Int32} {x_width : Int32} {x_guard : Int32} {x_stages : Int32} {x_fold : Int32} {x_pipe : Bool} {x_near : Bool} {s_at : Int32} {o_lines : Int32} {n_at : Int32} {o_kinds : Nat → Int32} {o_operands : Nat → Int32} {o_ties : Nat → Int32} {u_width : Int32} {u_guard : Int32} {u_bits : Int32} {u_stages : Int32} {u_places : Int32} {u_near : Bool} {u_quarter : Int64} {u_eighth : Int64} {u_ln : Int64} {u_shifts : Nat → Int32} {u_angles : Nat → Int64} {u_gains : Nat → Int64} {u_undos : Nat → Int64} {u_digits : Nat → Int32} {r_x : Int64} {r_y : Int64} {r_z : Int64} {r_upBits : Int32} {r_steps : Int32} {r_first : Int64} {r_second : Int64} {v_width : Int32} {v_guard : Int32} {v_bits : Int32} {v_stages : Int32} {v_places : Int32} {v_near : Bool} {v_quarter : Int64} {v_eighth : Int64} {v_ln : Int64} {v_shifts : Nat → Int32} {v_angles : Nat → Int64} {v_gains : Nat → Int64} {v_undos : Nat → Int64} {v_digits : Nat → Int32} {k_x : Int64} {k_y : Int64} {k_z : Int64} {k_upBits : Int32} {k_steps : Int32} {k_first : Int64} {k_second : Int64} {b_jobs : Int32} {b_over : Int32} {b_clocks : Int32} {b_held : Bool} {b_kinds : Nat → Int32} {b_operands : Nat → Int32} {b_ties : Nat → Int32} {b_states : Nat → Int32} {b_gone : Nat → Int32} {b_toldIn : Nat → Int32} {b_broughtIn : Nat → Int32} {b_doneIn : Nat → Int32} {c_jobs : Int32} {c_over : Int32} {c_clocks : Int32} {c_held : Bool} {c_kinds : Nat → Int32} {c_operands : Nat → Int32} {c_ties : Nat → Int32} {c_states : Nat → Int32} {c_gone : Nat → Int32} {c_toldIn : Nat → Int32} {c_broughtIn : Nat → Int32} {c_doneIn : Nat → Int32} {d_jobs : Int32} {d_over : Int32} {d_clocks : Int32} {d_held : Bool} {d_kinds : Nat → Int32} {d_operands : Nat → Int32} {d_ties : Nat → Int32} {d_states : Nat → Int32} {d_gone : Nat → Int32} {d_toldIn : Nat → Int32} {d_broughtIn : Nat → Int32} {d_doneIn : Nat → Int32} {z_refusals : Nat → Int32} {p0 : Int32} {p1 : Int32} {o : Int32} (h : f_X10_takenOut p0 p1 z_hasUnit u_bits u_near u_digits = some o) : Std g l yX10_takenOut (.code yX10_takenOut cX10_takenOut 4 (some .int) :: gw) rm_X10_takenOut A [.ref (q 0), .int p0, .int p1] (wX g q z_hasUnit z_hasImage t_length t_bytes x_width x_guard x_stages x_fold x_pipe x_near s_at o_lines n_at o_kinds o_operands o_ties u_width u_guard u_bits u_stages u_places u_near u_quarter u_eighth u_ln u_shifts u_angles u_gains u_undos u_digits r_x r_y r_z r_upBits r_steps r_first r_second v_width v_guard v_bits v_stages v_places v_near v_quarter v_eighth v_ln v_shifts v_angles v_gains v_undos v_digits k_x k_y k_z k_upBits k_steps k_first k_second b_jobs b_over b_clocks b_held b_kinds b_operands b_ties b_states b_gone b_toldIn b_broughtIn b_doneIn c_jobs c_over c_clocks c_held c_kinds c_operands c_ties c_states c_gone c_toldIn c_broughtIn c_doneIn d_jobs d_over d_clocks d_held d_kinds d_operands d_ties d_states d_gone d_toldIn d_broughtIn d_doneIn z_refusals) (wX g q z_hasUnit z_hasImage t_length t_bytes x_width x_guard x_stages x_fold x_pipe x_near s_at o_lines n_at o_kinds o_operands o_ties u_width u_guard u_bits u_stages u_places u_near u_quarter u_eighth u_ln u_shifts u_angles u_gains u_undos u_digits r_x r_y r_z r_upBits r_steps r_first r_second v_width v_guard v_bits v_stages v_places v_near v_quarter v_eighth v_ln v_shifts v_angles v_gains v_undos v_digits k_x k_y k_z k_upBits k_steps k_first k_second b_jobs b_over b_clocks b_held b_kinds b_operands b_ties b_states b_gone b_toldIn b_broughtIn b_doneIn c_jobs c_over c_clocks c_held c_kinds c_operands c_ties c_states c_gone c_toldIn c_broughtIn c_doneIn d_jobs d_over d_clocks d_held d_kinds d_operands d_ties d_states d_gone d_toldIn d_broughtIn d_doneIn z_refusals) (some (.int o)) := by
  refine std_i (own := RX10) (by decide +kernel) rfl (Nat.le_of_ble_eq_true rfl) ?_
  intro p e s m args below meth c Q X ret H locs hP hS ls hl
  have hx := X.1
  have hb := X.2.1
  have hl : lv_has ls 4 [(0, .ref (q 0)), (1, .int p0), (2, .int p1)] := hl
  have ret : ∀ {H : Heap} {locs : List Loc} {pc : Nat} {ls : Array Slot} {v : Int32} , some (v) = some o → WP g A (wX g q z_hasUnit z_hasImage t_length t_bytes x_width x_guard x_stages x_fold x_pipe x_near s_at o_lines n_at o_kinds o_operands o_ties u_width u_guard u_bits u_stages u_places u_near u_quarter u_eighth u_ln u_shifts u_angles u_gains u_undos u_digits r_x r_y r_z r_upBits r_steps r_first r_second v_width v_guard v_bits v_stages v_places v_near v_quarter v_eighth v_ln v_shifts v_angles v_gains v_undos v_digits k_x k_y k_z k_upBits k_steps k_first k_second b_jobs b_over b_clocks b_held b_kinds b_operands b_ties b_states b_gone b_toldIn b_broughtIn b_doneIn c_jobs c_over c_clocks c_held c_kinds c_operands c_ties c_states c_gone c_toldIn c_broughtIn c_doneIn d_jobs d_over d_clocks d_held d_kinds d_operands d_ties d_states d_gone d_toldIn d_broughtIn d_doneIn z_refusals) H → va_S A s.heap H locs → decode cX10_takenOut pc = .ok (.ireturn, 1) → W p l e rm_X10_takenOut s m args below meth c H locs 0 0 Q (F0 m pc ls [.int v]) := by
    intro H locs pc ls v h hP hS hd
    cases h
    exact ret hP hS hd
  have b22 : ∀  (H : Heap) (locs : List Loc) (ls : Array Slot), f_X10_takenOut_b22  z_hasUnit u_bits u_near u_digits   = some o → WP g A (wX g q z_hasUnit z_hasImage t_length t_bytes x_width x_guard x_stages x_fold x_pipe x_near s_at o_lines n_at o_kinds o_operands o_ties u_width u_guard u_bits u_stages u_places u_near u_quarter u_eighth u_ln u_shifts u_angles u_gains u_undos u_digits r_x r_y r_z r_upBits r_steps r_first r_second v_width v_guard v_bits v_stages v_places v_near v_quarter v_eighth v_ln v_shifts v_angles v_gains v_undos v_digits k_x k_y k_z k_upBits k_steps k_first k_second b_jobs b_over b_clocks b_held b_kinds b_operands b_ties b_states b_gone b_toldIn b_broughtIn b_doneIn c_jobs c_over c_clocks c_held c_kinds c_operands c_ties c_states c_gone c_toldIn c_broughtIn c_doneIn d_jobs d_over d_clocks d_held d_kinds d_operands d_ties d_states d_gone d_toldIn d_broughtIn d_doneIn z_refusals) H → va_S A s.heap H locs → lv_has ls 4 [] → W p l e rm_X10_takenOut s m args below meth c H locs 0 0 Q (F0 m 22 ls []) := by
    intro   H locs ls h hP hS hl
    unfold f_X10_takenOut_b22 at h
    refine lv_ldc (v := (-2147483648)) hx hb X.2.2.2.1 (X.2.2.2.2.1 _ wd_3_123) dX10_takenOut_22 ?_
    exact ret h hP hS dX10_takenOut_24
  unfold f_X10_takenOut at h
  refine lv_ldc (v := 536870912) hx hb X.2.2.2.1 (X.2.2.2.2.1 _ wd_3_128) dX10_takenOut_0 ?_
  refine lv_istore_n (lv' := [(3, .int 536870912), (0, .ref (q 0)), (1, .int p0), (2, .int p1)]) hx hb dX10_takenOut_2 rfl hl (by decide) rfl (fun ls hl => ?_)
  refine lv_aload_n hx hb dX10_takenOut_3 rfl (lv_at hl 1 rfl) ?_
  refine lv_iload_n hx hb dX10_takenOut_4 rfl (lv_at hl 2 rfl) ?_
  obtain ⟨o1, hco1, h⟩ := bd_of h
  refine kV (rest := []) X dX10_takenOut_5 wd_3_90 mw_X10_isMode wd_3_92 wp_3_0 hP (k0 := 0) rfl rfl rfl hS (fun _ z => z) (c_X10_isMode hco1) rfl hl.1 rfl (Nat.le_of_ble_eq_true rfl) rfl rfl ⟨Nat.le_of_ble_eq_true rfl, Nat.le_of_ble_eq_true rfl⟩ (fun H locs hP _ _ hS => ?_)
  refine W.eq (g2 := F0 m 8 ls [.int (bI o1)]) rfl ?_
  refine rb_eq (tgt := 22) hx hb dX10_takenOut_8 rfl (fun c8 => ?_) (fun c8 => ?_)
  · have h := br_n c8 h
    exact b22    _ _ _ h hP hS (lv_sub hl [] rfl)
  · have h := br_p c8 h
    refine lv_iload_n hx hb dX10_takenOut_11 rfl (lv_at hl 3 rfl) ?_
    refine lv_iload_n hx hb dX10_takenOut_12 rfl (lv_at hl 0 rfl) ?_
    refine lv_ineg hx hb dX10_takenOut_13 ?_
    refine lv_icmp_lt (tgt := 22) hx hb dX10_takenOut_14 rfl (fun c14 => ?_) (fun c14 => ?_)
    · have h := br_p c14 h
      exact b22    _ _ _ h hP hS (lv_sub hl [] rfl)
    · have h := br_n c14 h
      refine lv_iload_n hx hb dX10_takenOut_17 rfl (lv_at hl 3 rfl) ?_
      refine lv_iload_n hx hb dX10_takenOut_18 rfl (lv_at hl 0 rfl) ?_
      refine lv_icmp_le (tgt := 25) hx hb dX10_takenOut_19 rfl (fun c19 => ?_) (fun c19 => ?_)
      · have h := br_p c19 h
        refine lv_aload_n hx hb dX10_takenOut_25 rfl (lv_at hl 1 rfl) ?_
        refine gf_X10_37_X_0 X hP dX10_takenOut_26 ?_
        refine lv_iload_n hx hb dX10_takenOut_29 rfl (lv_at hl 2 rfl) ?_
        refine lv_iload_n hx hb dX10_takenOut_30 rfl (lv_at hl 3 rfl) ?_
        refine lv_i2l hx hb dX10_takenOut_31 rfl ?_
        obtain ⟨o2, hco2, h⟩ := bd_of h
        obtain ⟨hF, hFA⟩ := fo_X_Unit_10 hP
        refine kVN (rest := []) X dX10_takenOut_32 wd_3_129 mw_X8_withoutGain wd_3_131 wp_3_6 hF (k0 := 0) rfl rfl rfl hS hFA (c_X8_withoutGain hco2) rfl hl.1 rfl (Nat.le_of_ble_eq_true rfl) rfl rfl ⟨Nat.le_of_ble_eq_true rfl, Nat.le_of_ble_eq_true rfl⟩ (fun H locs hF1 _ hk hS => ?_)
        have hP := un_X_Unit_10 hP hk hF1
        refine W.eq (g2 := F0 m 35 ls [.long o2]) rfl ?_
        refine lv_l2i hx hb dX10_takenOut_35 rfl ?_
        exact ret h hP hS dX10_takenOut_36
      · have h := br_n c19 h
        exact b22    _ _ _ h hP hS (lv_sub hl [] rfl)
abbrev rm_X10_isKind : Room := { frames := 0, cells := 0, slots := 0, locals := 0 }
set_option maxRecDepth 100000 in
set_option maxHeartbeats 4000000 in
theorem c_X10_isKind {g : gT} {l : Launch} {A : Nat → Prop} {q : Nat → Nat} {z_hasUnit : Bool} {z_hasImage : Bool} {t_length : Int32} {t_bytes : Nat → Int32} {x_width : Int32} {x_guard : Int32} {x_stages : Int32} {x_fold : Int32} {x_pipe : Bool} {x_near : Bool} {s_at : Int32} {o_lines : Int32} {n_at : Int32} {o_kinds : Nat → Int32} {o_operands : Nat → Int32} {o_ties : Nat → Int32} {u_width : Int32} {u_guard : Int32} {u_bits : Int32} {u_stages : Int32} {u_places : Int32} {u_near : Bool} {u_quarter : Int64} {u_eighth : Int64} {u_ln : Int64} {u_shifts : Nat → Int32} {u_angles : Nat → Int64} {u_gains : Nat → Int64} {u_undos : Nat → Int64} {u_digits : Nat → Int32} {r_x : Int64} {r_y : Int64} {r_z : Int64} {r_upBits : Int32} {r_steps : Int32} {r_first : Int64} {r_second : Int64} {v_width : Int32} {v_guard : Int32} {v_bits : Int32} {v_stages : Int32} {v_places : Int32} {v_near : Bool} {v_quarter : Int64} {v_eighth : Int64} {v_ln : Int64} {v_shifts : Nat → Int32} {v_angles : Nat → Int64} {v_gains : Nat → Int64} {v_undos : Nat → Int64} {v_digits : Nat → Int32} {k_x : Int64} {k_y : Int64} {k_z : Int64} {k_upBits : Int32} {k_steps : Int32} {k_first : Int64} {k_second : Int64} {b_jobs : Int32} {b_over : Int32} {b_clocks : Int32} {b_held : Bool} {b_kinds : Nat → Int32} {b_operands : Nat → Int32} {b_ties : Nat → Int32} {b_states : Nat → Int32} {b_gone : Nat → Int32} {b_toldIn : Nat → Int32} {b_broughtIn : Nat → Int32} {b_doneIn : Nat → Int32} {c_jobs : Int32} {c_over : Int32} {c_clocks : Int32} {c_held : Bool} {c_kinds : Nat → Int32} {c_operands : Nat → Int32} {c_ties : Nat → Int32} {c_states : Nat → Int32} {c_gone : Nat → Int32} {c_toldIn : Nat → Int32} {c_broughtIn : Nat → Int32} {c_doneIn : Nat → Int32} {d_jobs : Int32} {d_over : Int32} {d_clocks : Int32} {d_held : Bool} {d_kinds : Nat → Int32} {d_operands : Nat → Int32} {d_ties : Nat → Int32} {d_states : Nat → Int32} {d_gone : Nat → Int32} {d_toldIn : Nat → Int32} {d_broughtIn : Nat → Int32} {d_doneIn : Nat → Int32} {z_refusals : Nat → Int32} {p0 : Int32} {o : Bool} (h : f_X10_isKind p0 z_hasUnit = some o) : Std g l yX10_isKind (.code yX10_isKind cX10_isKind 2 (some .boolean) :: gw) rm_X10_isKind A [.ref (q 0), .int p0] (wX g q z_hasUnit z_hasImage t_length t_bytes x_width x_guard x_stages x_fold x_pipe x_near s_at o_lines n_at o_kinds o_operands o_ties u_width u_guard u_bits u_stages u_places u_near u_quarter u_eighth u_ln u_shifts u_angles u_gains u_undos u_digits r_x r_y r_z r_upBits r_steps r_first r_second v_width v_guard v_bits v_stages v_places v_near v_quarter v_eighth v_ln v_shifts v_angles v_gains v_undos v_digits k_x k_y k_z k_upBits k_steps k_first k_second b_jobs b_over b_clocks b_held b_kinds b_operands b_ties b_states b_gone b_toldIn b_broughtIn b_doneIn c_jobs c_over c_clocks c_held c_kinds c_operands c_ties c_states c_gone c_toldIn c_broughtIn c_doneIn d_jobs d_over d_clocks d_held d_kinds d_operands d_ties d_states d_gone d_toldIn d_broughtIn d_doneIn z_refusals) (wX g q z_hasUnit z_hasImage t_length t_bytes x_width x_guard x_stages x_fold x_pipe x_near s_at o_lines n_at o_kinds o_operands o_ties u_width u_guard u_bits u_stages u_places u_near u_quarter u_eighth u_ln u_shifts u_angles u_gains u_undos u_digits r_x r_y r_z r_upBits r_steps r_first r_second v_width v_guard v_bits v_stages v_places v_near v_quarter v_eighth v_ln v_shifts v_angles v_gains v_undos v_digits k_x k_y k_z k_upBits k_steps k_first k_second b_jobs b_over b_clocks b_held b_kinds b_operands b_ties b_states b_gone b_toldIn b_broughtIn b_doneIn c_jobs c_over c_clocks c_held c_kinds c_operands c_ties c_states c_gone c_toldIn c_broughtIn c_doneIn d_jobs d_over d_clocks d_held d_kinds d_operands d_ties d_states d_gone d_toldIn d_broughtIn d_doneIn z_refusals) (some (.int (bI o))) := by
  refine std_z (own := RX10) (by decide +kernel) rfl (Nat.le_of_ble_eq_true rfl) ?_
  intro p e s m args below meth c Q X ret H locs hP hS ls hl
  have hx := X.1
  have hb := X.2.1
  have hl : lv_has ls 2 [(0, .ref (q 0)), (1, .int p0)] := hl
  have ret : ∀ {H : Heap} {locs : List Loc} {pc : Nat} {ls : Array Slot} {v : Bool} , some (v) = some o → WP g A (wX g q z_hasUnit z_hasImage t_length t_bytes x_width x_guard x_stages x_fold x_pipe x_near s_at o_lines n_at o_kinds o_operands o_ties u_width u_guard u_bits u_stages u_places u_near u_quarter u_eighth u_ln u_shifts u_angles u_gains u_undos u_digits r_x r_y r_z r_upBits r_steps r_first r_second v_width v_guard v_bits v_stages v_places v_near v_quarter v_eighth v_ln v_shifts v_angles v_gains v_undos v_digits k_x k_y k_z k_upBits k_steps k_first k_second b_jobs b_over b_clocks b_held b_kinds b_operands b_ties b_states b_gone b_toldIn b_broughtIn b_doneIn c_jobs c_over c_clocks c_held c_kinds c_operands c_ties c_states c_gone c_toldIn c_broughtIn c_doneIn d_jobs d_over d_clocks d_held d_kinds d_operands d_ties d_states d_gone d_toldIn d_broughtIn d_doneIn z_refusals) H → va_S A s.heap H locs → decode cX10_isKind pc = .ok (.ireturn, 1) → W p l e rm_X10_isKind s m args below meth c H locs 0 0 Q (F0 m pc ls [.int (bI v)]) := by
    intro H locs pc ls v h hP hS hd
    cases h
    exact ret hP hS hd
  have b23 : ∀  (H : Heap) (locs : List Loc) (ls : Array Slot), f_X10_isKind_b23  z_hasUnit   = some o → WP g A (wX g q z_hasUnit z_hasImage t_length t_bytes x_width x_guard x_stages x_fold x_pipe x_near s_at o_lines n_at o_kinds o_operands o_ties u_width u_guard u_bits u_stages u_places u_near u_quarter u_eighth u_ln u_shifts u_angles u_gains u_undos u_digits r_x r_y r_z r_upBits r_steps r_first r_second v_width v_guard v_bits v_stages v_places v_near v_quarter v_eighth v_ln v_shifts v_angles v_gains v_undos v_digits k_x k_y k_z k_upBits k_steps k_first k_second b_jobs b_over b_clocks b_held b_kinds b_operands b_ties b_states b_gone b_toldIn b_broughtIn b_doneIn c_jobs c_over c_clocks c_held c_kinds c_operands c_ties c_states c_gone c_toldIn c_broughtIn c_doneIn d_jobs d_over d_clocks d_held d_kinds d_operands d_ties d_states d_gone d_toldIn d_broughtIn d_doneIn z_refusals) H → va_S A s.heap H locs → lv_has ls 2 [] → W p l e rm_X10_isKind s m args below meth c H locs 0 0 Q (F0 m 23 ls []) := by
    intro   H locs ls h hP hS hl
    unfold f_X10_isKind_b23 at h
    refine lv_iconst (v := 0) hx hb dX10_isKind_23 rfl ?_
    exact ret h hP hS dX10_isKind_24
  unfold f_X10_isKind at h
  refine lv_aload_n hx hb dX10_isKind_0 rfl (lv_at hl 0 rfl) ?_
  refine gf_X10_110_X_0 X hP dX10_isKind_1 ?_
  refine rb_eq (tgt := 23) hx hb dX10_isKind_4 rfl (fun c4 => ?_) (fun c4 => ?_)
  · have h := br_n c4 h
    exact b23    _ _ _ h hP hS (lv_sub hl [] rfl)
  · have h := br_p c4 h
    refine lv_iload_n hx hb dX10_isKind_7 rfl (lv_at hl 1 rfl) ?_
    refine lv_if_lt (tgt := 23) hx hb dX10_isKind_8 rfl (fun c8 => ?_) (fun c8 => ?_)
    · have h := br_p c8 h
      exact b23    _ _ _ h hP hS (lv_sub hl [] rfl)
    · have h := br_n c8 h
      refine lv_iload_n hx hb dX10_isKind_11 rfl (lv_at hl 1 rfl) ?_
      refine sgO X hS (sfX X).1 wd_3_145 dX10_isKind_12 ?_
      refine stl (v := 9) X hS (sfX X).2.2.2.2.2.2.2.1 rfl dX10_isKind_15 ?_
      refine jx1 h (P := fun (v1 : Bool) => ∀ ls : Array Slot, lv_has ls 2 [] → W p l e rm_X10_isKind s m args below meth c H locs 0 0 Q (F0 m 24 ls [.int (bI v1)])) ?_ ?_
      · intro v1 h ls hl
        exact ret h hP hS dX10_isKind_24
      · intro J h
        refine lv_icmp_ge (tgt := 23) hx hb dX10_isKind_16 rfl (fun c16 => ?_) (fun c16 => ?_)
        · refine lv_iconst (v := 0) hx hb dX10_isKind_23 rfl ?_
          exact J _ (lt_ip c16 h) ls (lv_sub hl [] rfl)
        · refine lv_iconst (v := 1) hx hb dX10_isKind_19 rfl ?_
          refine lv_goto (tgt := 24) hx hb dX10_isKind_20 rfl ?_
          exact J _ (lt_in c16 h) ls (lv_sub hl [] rfl)
abbrev rm_X10_isEither : Room := { frames := 0, cells := 0, slots := 0, locals := 0 }
set_option maxRecDepth 100000 in
set_option maxHeartbeats 4000000 in
theorem c_X10_isEither {g : gT} {l : Launch} {A : Nat → Prop} {w : va_W} {p0 : Int32} {o : Bool} (h : f_X10_isEither p0  = some o) : Std g l yX10_isEither (.code yX10_isEither cX10_isEither 1 (some .boolean) :: gw) rm_X10_isEither A [.int p0] w w (some (.int (bI o))) := by
  refine std_z (own := RX10) (by decide +kernel) rfl (Nat.le_of_ble_eq_true rfl) ?_
  intro p e s m args below meth c Q X ret H locs hP hS ls hl
  have hx := X.1
  have hb := X.2.1
  have hl : lv_has ls 1 [(0, .int p0)] := hl
  have ret : ∀ {H : Heap} {locs : List Loc} {pc : Nat} {ls : Array Slot} {v : Bool} , some (v) = some o → WP g A w H → va_S A s.heap H locs → decode cX10_isEither pc = .ok (.ireturn, 1) → W p l e rm_X10_isEither s m args below meth c H locs 0 0 Q (F0 m pc ls [.int (bI v)]) := by
    intro H locs pc ls v h hP hS hd
    cases h
    exact ret hP hS hd
  unfold f_X10_isEither at h
  refine lv_iload_n hx hb dX10_isEither_0 rfl (lv_at hl 0 rfl) ?_
  refine jx1 h (P := fun (v1 : Bool) => ∀ ls : Array Slot, lv_has ls 1 [] → W p l e rm_X10_isEither s m args below meth c H locs 0 0 Q (F0 m 14 ls [.int (bI v1)])) ?_ ?_
  · intro v1 h ls hl
    exact ret h hP hS dX10_isEither_14
  · intro J h
    refine lv_if_eq (tgt := 9) hx hb dX10_isEither_1 rfl (fun c1 => ?_) (fun c1 => ?_)
    · refine lv_iconst (v := 1) hx hb dX10_isEither_9 rfl ?_
      refine lv_goto (tgt := 14) hx hb dX10_isEither_10 rfl ?_
      exact J _ (lt_ip c1 h) ls (lv_sub hl [] rfl)
    · refine lv_iload_n hx hb dX10_isEither_4 rfl (lv_at hl 0 rfl) ?_
      refine lv_iconst (v := 1) hx hb dX10_isEither_5 rfl ?_
      refine lv_icmp_ne (tgt := 13) hx hb dX10_isEither_6 rfl (fun c6 => ?_) (fun c6 => ?_)
      · refine lv_iconst (v := 0) hx hb dX10_isEither_13 rfl ?_
        exact J _ (lt_in c6 (lt_in c1 h)) ls (lv_sub hl [] rfl)
      · refine lv_iconst (v := 1) hx hb dX10_isEither_9 rfl ?_
        refine lv_goto (tgt := 14) hx hb dX10_isEither_10 rfl ?_
        exact J _ (lt_ip c6 (lt_in c1 h)) ls (lv_sub hl [] rfl)
abbrev rm_X10_value : Room := { frames := 5, cells := 0, slots := 0, locals := 134 }
set_option maxRecDepth 100000 in
set_option maxHeartbeats 4000000 in
theorem c_X10_value {g : gT} {l : Launch} {A : Nat → Prop} {q : Nat → Nat} {z_hasUnit : Bool} {z_hasImage : Bool} {t_length : Int32} {t_bytes : Nat → Int32} {x_width : Int32} {x_guard : Int32} {x_stages : Int32} {x_fold : Int32} {x_pipe : Bool} {x_near : Bool} {s_at : Int32} {o_lines : Int32} {n_at : Int32} {o_kinds : Nat → Int32} {o_operands : Nat → Int32} {o_ties : Nat → Int32} {u_width : Int32} {u_guard : Int32} {u_bits : Int32} {u_stages : Int32} {u_places : Int32} {u_near : Bool} {u_quarter : Int64} {u_eighth : Int64} {u_ln : Int64} {u_shifts : Nat → Int32} {u_angles : Nat → Int64} {u_gains : Nat → Int64} {u_undos : Nat → Int64} {u_digits : Nat → Int32} {r_x : Int64} {r_y : Int64} {r_z : Int64} {r_upBits : Int32} {r_steps : Int32} {r_first : Int64} {r_second : Int64} {v_width : Int32} {v_guard : Int32} {v_bits : Int32} {v_stages : Int32} {v_places : Int32} {v_near : Bool} {v_quarter : Int64} {v_eighth : Int64} {v_ln : Int64} {v_shifts : Nat → Int32} {v_angles : Nat → Int64} {v_gains : Nat → Int64} {v_undos : Nat → Int64} {v_digits : Nat → Int32} {k_x : Int64} {k_y : Int64} {k_z : Int64} {k_upBits : Int32} {k_steps : Int32} {k_first : Int64} {k_second : Int64} {b_jobs : Int32} {b_over : Int32} {b_clocks : Int32} {b_held : Bool} {b_kinds : Nat → Int32} {b_operands : Nat → Int32} {b_ties : Nat → Int32} {b_states : Nat → Int32} {b_gone : Nat → Int32} {b_toldIn : Nat → Int32} {b_broughtIn : Nat → Int32} {b_doneIn : Nat → Int32} {c_jobs : Int32} {c_over : Int32} {c_clocks : Int32} {c_held : Bool} {c_kinds : Nat → Int32} {c_operands : Nat → Int32} {c_ties : Nat → Int32} {c_states : Nat → Int32} {c_gone : Nat → Int32} {c_toldIn : Nat → Int32} {c_broughtIn : Nat → Int32} {c_doneIn : Nat → Int32} {d_jobs : Int32} {d_over : Int32} {d_clocks : Int32} {d_held : Bool} {d_kinds : Nat → Int32} {d_operands : Nat → Int32} {d_ties : Nat → Int32} {d_states : Nat → Int32} {d_gone : Nat → Int32} {d_toldIn : Nat → Int32} {d_broughtIn : Nat → Int32} {d_doneIn : Nat → Int32} {z_refusals : Nat → Int32} {p0 : Int32} {p1 : Int32} {p2 : Int32} {p3 : Int32} {p4 : Int32} {o : Int32 × Int64 × Int64 × Int64 × Int32 × Int32 × Int64 × Int64} (h : f_X10_value p0 p1 p2 p3 p4 z_hasUnit u_width u_guard u_bits u_stages u_near u_quarter u_ln u_shifts u_angles u_undos u_digits r_x r_y r_z r_upBits r_steps r_first r_second = some o) : Std g l yX10_value (.code yX10_value cX10_value 6 (some .int) :: gw) rm_X10_value A [.ref (q 0), .int p0, .int p1, .int p2, .int p3, .int p4] (wX g q z_hasUnit z_hasImage t_length t_bytes x_width x_guard x_stages x_fold x_pipe x_near s_at o_lines n_at o_kinds o_operands o_ties u_width u_guard u_bits u_stages u_places u_near u_quarter u_eighth u_ln u_shifts u_angles u_gains u_undos u_digits r_x r_y r_z r_upBits r_steps r_first r_second v_width v_guard v_bits v_stages v_places v_near v_quarter v_eighth v_ln v_shifts v_angles v_gains v_undos v_digits k_x k_y k_z k_upBits k_steps k_first k_second b_jobs b_over b_clocks b_held b_kinds b_operands b_ties b_states b_gone b_toldIn b_broughtIn b_doneIn c_jobs c_over c_clocks c_held c_kinds c_operands c_ties c_states c_gone c_toldIn c_broughtIn c_doneIn d_jobs d_over d_clocks d_held d_kinds d_operands d_ties d_states d_gone d_toldIn d_broughtIn d_doneIn z_refusals) (wX g q z_hasUnit z_hasImage t_length t_bytes x_width x_guard x_stages x_fold x_pipe x_near s_at o_lines n_at o_kinds o_operands o_ties u_width u_guard u_bits u_stages u_places u_near u_quarter u_eighth u_ln u_shifts u_angles u_gains u_undos u_digits o.2.1 o.2.2.1 o.2.2.2.1 o.2.2.2.2.1 o.2.2.2.2.2.1 o.2.2.2.2.2.2.1 o.2.2.2.2.2.2.2 v_width v_guard v_bits v_stages v_places v_near v_quarter v_eighth v_ln v_shifts v_angles v_gains v_undos v_digits k_x k_y k_z k_upBits k_steps k_first k_second b_jobs b_over b_clocks b_held b_kinds b_operands b_ties b_states b_gone b_toldIn b_broughtIn b_doneIn c_jobs c_over c_clocks c_held c_kinds c_operands c_ties c_states c_gone c_toldIn c_broughtIn c_doneIn d_jobs d_over d_clocks d_held d_kinds d_operands d_ties d_states d_gone d_toldIn d_broughtIn d_doneIn z_refusals) (some (.int o.1)) := by
  refine std_i (own := RX10) (by decide +kernel) rfl (Nat.le_of_ble_eq_true rfl) ?_
  intro p e s m args below meth c Q X ret H locs hP hS ls hl
  have hx := X.1
  have hb := X.2.1
  have hl : lv_has ls 6 [(0, .ref (q 0)), (1, .int p0), (2, .int p1), (3, .int p2), (4, .int p3), (5, .int p4)] := hl
  have ret : ∀ {H : Heap} {locs : List Loc} {pc : Nat} {ls : Array Slot} {v : Int32} {r_x : Int64} {r_y : Int64} {r_z : Int64} {r_upBits : Int32} {r_steps : Int32} {r_first : Int64} {r_second : Int64}, some (v, r_x, r_y, r_z, r_upBits, r_steps, r_first, r_second) = some o → WP g A (wX g q z_hasUnit z_hasImage t_length t_bytes x_width x_guard x_stages x_fold x_pipe x_near s_at o_lines n_at o_kinds o_operands o_ties u_width u_guard u_bits u_stages u_places u_near u_quarter u_eighth u_ln u_shifts u_angles u_gains u_undos u_digits r_x r_y r_z r_upBits r_steps r_first r_second v_width v_guard v_bits v_stages v_places v_near v_quarter v_eighth v_ln v_shifts v_angles v_gains v_undos v_digits k_x k_y k_z k_upBits k_steps k_first k_second b_jobs b_over b_clocks b_held b_kinds b_operands b_ties b_states b_gone b_toldIn b_broughtIn b_doneIn c_jobs c_over c_clocks c_held c_kinds c_operands c_ties c_states c_gone c_toldIn c_broughtIn c_doneIn d_jobs d_over d_clocks d_held d_kinds d_operands d_ties d_states d_gone d_toldIn d_broughtIn d_doneIn z_refusals) H → va_S A s.heap H locs → decode cX10_value pc = .ok (.ireturn, 1) → W p l e rm_X10_value s m args below meth c H locs 0 0 Q (F0 m pc ls [.int v]) := by
    intro H locs pc ls v r_x r_y r_z r_upBits r_steps r_first r_second h hP hS hd
    cases h
    exact ret hP hS hd
  have b34 : ∀ (r_x : Int64) (r_y : Int64) (r_z : Int64) (r_upBits : Int32) (r_steps : Int32) (r_first : Int64) (r_second : Int64) (H : Heap) (locs : List Loc) (ls : Array Slot), f_X10_value_b34  z_hasUnit u_width u_guard u_bits u_stages u_near u_quarter u_ln u_shifts u_angles u_undos u_digits  r_x r_y r_z r_upBits r_steps r_first r_second = some o → WP g A (wX g q z_hasUnit z_hasImage t_length t_bytes x_width x_guard x_stages x_fold x_pipe x_near s_at o_lines n_at o_kinds o_operands o_ties u_width u_guard u_bits u_stages u_places u_near u_quarter u_eighth u_ln u_shifts u_angles u_gains u_undos u_digits r_x r_y r_z r_upBits r_steps r_first r_second v_width v_guard v_bits v_stages v_places v_near v_quarter v_eighth v_ln v_shifts v_angles v_gains v_undos v_digits k_x k_y k_z k_upBits k_steps k_first k_second b_jobs b_over b_clocks b_held b_kinds b_operands b_ties b_states b_gone b_toldIn b_broughtIn b_doneIn c_jobs c_over c_clocks c_held c_kinds c_operands c_ties c_states c_gone c_toldIn c_broughtIn c_doneIn d_jobs d_over d_clocks d_held d_kinds d_operands d_ties d_states d_gone d_toldIn d_broughtIn d_doneIn z_refusals) H → va_S A s.heap H locs → lv_has ls 6 [] → W p l e rm_X10_value s m args below meth c H locs 0 0 Q (F0 m 34 ls []) := by
    intro  r_x r_y r_z r_upBits r_steps r_first r_second H locs ls h hP hS hl
    unfold f_X10_value_b34 at h
    refine lv_ldc (v := (-2147483648)) hx hb X.2.2.2.1 (X.2.2.2.2.1 _ wd_3_123) dX10_value_34 ?_
    exact ret h hP hS dX10_value_36
  unfold f_X10_value at h
  refine lv_aload_n hx hb dX10_value_0 rfl (lv_at hl 0 rfl) ?_
  refine lv_iload_n hx hb dX10_value_1 rfl (lv_at hl 1 rfl) ?_
  obtain ⟨o1, hco1, h⟩ := bd_of h
  refine kV (rest := []) X dX10_value_2 wd_3_141 mw_X10_isKind wd_3_143 wp_3_8 hP (k0 := 0) rfl rfl rfl hS (fun _ z => z) (c_X10_isKind hco1) rfl hl.1 rfl (Nat.le_of_ble_eq_true rfl) rfl rfl ⟨Nat.le_of_ble_eq_true rfl, Nat.le_of_ble_eq_true rfl⟩ (fun H locs hP _ _ hS => ?_)
  refine W.eq (g2 := F0 m 5 ls [.int (bI o1)]) rfl ?_
  refine rb_eq (tgt := 34) hx hb dX10_value_5 rfl (fun c5 => ?_) (fun c5 => ?_)
  · have h := br_n c5 h
    exact b34   r_x r_y r_z r_upBits r_steps r_first r_second _ _ _ h hP hS (lv_sub hl [] rfl)
  · have h := br_p c5 h
    refine lv_iload hx hb dX10_value_8 (lv_at hl 5 rfl) ?_
    obtain ⟨o2, hco2, h⟩ := bd_of h
    refine kS (rest := []) X dX10_value_10 wd_3_146 mw_X10_isEither wd_3_147 hP hS (fun _ z => z) (c_X10_isEither hco2) rfl hl.1 rfl (Nat.le_of_ble_eq_true rfl) rfl rfl ⟨Nat.le_of_ble_eq_true rfl, Nat.le_of_ble_eq_true rfl⟩ (fun H locs hP _ _ hS => ?_)
    refine W.eq (g2 := F0 m 13 ls [.int (bI o2)]) rfl ?_
    refine rb_eq (tgt := 34) hx hb dX10_value_13 rfl (fun c13 => ?_) (fun c13 => ?_)
    · have h := br_n c13 h
      exact b34   r_x r_y r_z r_upBits r_steps r_first r_second _ _ _ h hP hS (lv_sub hl [] rfl)
    · have h := br_p c13 h
      refine lv_aload_n hx hb dX10_value_16 rfl (lv_at hl 0 rfl) ?_
      refine gf_X10_46_X_0 X hP dX10_value_17 ?_
      refine lv_iload_n hx hb dX10_value_20 rfl (lv_at hl 1 rfl) ?_
      refine lv_iload_n hx hb dX10_value_21 rfl (lv_at hl 2 rfl) ?_
      refine lv_i2l hx hb dX10_value_22 rfl ?_
      refine lv_iload_n hx hb dX10_value_23 rfl (lv_at hl 3 rfl) ?_
      refine lv_i2l hx hb dX10_value_24 rfl ?_
      refine lv_iload hx hb dX10_value_25 (lv_at hl 4 rfl) ?_
      refine lv_i2l hx hb dX10_value_27 rfl ?_
      obtain ⟨o3, hco3, h⟩ := bd_of h
      obtain ⟨hF, hFA⟩ := fo_X_Turner_16 hP
      refine kVN (rest := []) X dX10_value_28 wd_3_149 mw_X7_solve wd_3_151 wp_3_9 hF (k0 := 0) rfl rfl rfl hS hFA (c_X7_solve hco3) rfl hl.1 rfl (Nat.le_of_ble_eq_true rfl) rfl rfl ⟨Nat.le_of_ble_eq_true rfl, Nat.le_of_ble_eq_true rfl⟩ (fun H locs hF1 _ hk hS => ?_)
      have hP := un_X_Turner_16 hP hk hF1
      refine W.eq (g2 := F0 m 31 ls [.int (bI o3.1)]) rfl ?_
      refine rb_ne (tgt := 37) hx hb dX10_value_31 rfl (fun c31 => ?_) (fun c31 => ?_)
      · have h := br_p c31 h
        refine lv_aload_n hx hb dX10_value_37 rfl (lv_at hl 0 rfl) ?_
        refine gf_X10_46_X_0 X hP dX10_value_38 ?_
        refine lv_iload hx hb dX10_value_41 (lv_at hl 5 rfl) ?_
        obtain ⟨o4, hco4, h⟩ := bd_of h
        obtain ⟨hF, hFA⟩ := fo_X_Turner_16 hP
        refine kVN (rest := []) X dX10_value_43 wd_4_9 mw_X7_answer wd_4_11 wp_4_10 hF (k0 := 0) rfl rfl rfl hS hFA (c_X7_answer hco4) rfl hl.1 rfl (Nat.le_of_ble_eq_true rfl) rfl rfl ⟨Nat.le_of_ble_eq_true rfl, Nat.le_of_ble_eq_true rfl⟩ (fun H locs hF1 _ hk hS => ?_)
        have hP := un_X_Turner_16 hP hk hF1
        refine W.eq (g2 := F0 m 46 ls [.long o4]) rfl ?_
        refine lv_l2i hx hb dX10_value_46 rfl ?_
        exact ret h hP hS dX10_value_47
      · have h := br_n c31 h
        exact b34   o3.2.1 o3.2.2.1 o3.2.2.2.1 o3.2.2.2.2.1 o3.2.2.2.2.2.1 o3.2.2.2.2.2.2.1 o3.2.2.2.2.2.2.2 _ _ _ h hP hS (lv_sub hl [] rfl)
abbrev rm_X10_isBounded : Room := { frames := 0, cells := 0, slots := 0, locals := 0 }
set_option maxRecDepth 100000 in
set_option maxHeartbeats 4000000 in
theorem c_X10_isBounded {g : gT} {l : Launch} {A : Nat → Prop} {q : Nat → Nat} {z_hasUnit : Bool} {z_hasImage : Bool} {t_length : Int32} {t_bytes : Nat → Int32} {x_width : Int32} {x_guard : Int32} {x_stages : Int32} {x_fold : Int32} {x_pipe : Bool} {x_near : Bool} {s_at : Int32} {o_lines : Int32} {n_at : Int32} {o_kinds : Nat → Int32} {o_operands : Nat → Int32} {o_ties : Nat → Int32} {u_width : Int32} {u_guard : Int32} {u_bits : Int32} {u_stages : Int32} {u_places : Int32} {u_near : Bool} {u_quarter : Int64} {u_eighth : Int64} {u_ln : Int64} {u_shifts : Nat → Int32} {u_angles : Nat → Int64} {u_gains : Nat → Int64} {u_undos : Nat → Int64} {u_digits : Nat → Int32} {r_x : Int64} {r_y : Int64} {r_z : Int64} {r_upBits : Int32} {r_steps : Int32} {r_first : Int64} {r_second : Int64} {v_width : Int32} {v_guard : Int32} {v_bits : Int32} {v_stages : Int32} {v_places : Int32} {v_near : Bool} {v_quarter : Int64} {v_eighth : Int64} {v_ln : Int64} {v_shifts : Nat → Int32} {v_angles : Nat → Int64} {v_gains : Nat → Int64} {v_undos : Nat → Int64} {v_digits : Nat → Int32} {k_x : Int64} {k_y : Int64} {k_z : Int64} {k_upBits : Int32} {k_steps : Int32} {k_first : Int64} {k_second : Int64} {b_jobs : Int32} {b_over : Int32} {b_clocks : Int32} {b_held : Bool} {b_kinds : Nat → Int32} {b_operands : Nat → Int32} {b_ties : Nat → Int32} {b_states : Nat → Int32} {b_gone : Nat → Int32} {b_toldIn : Nat → Int32} {b_broughtIn : Nat → Int32} {b_doneIn : Nat → Int32} {c_jobs : Int32} {c_over : Int32} {c_clocks : Int32} {c_held : Bool} {c_kinds : Nat → Int32} {c_operands : Nat → Int32} {c_ties : Nat → Int32} {c_states : Nat → Int32} {c_gone : Nat → Int32} {c_toldIn : Nat → Int32} {c_broughtIn : Nat → Int32} {c_doneIn : Nat → Int32} {d_jobs : Int32} {d_over : Int32} {d_clocks : Int32} {d_held : Bool} {d_kinds : Nat → Int32} {d_operands : Nat → Int32} {d_ties : Nat → Int32} {d_states : Nat → Int32} {d_gone : Nat → Int32} {d_toldIn : Nat → Int32} {d_broughtIn : Nat → Int32} {d_doneIn : Nat → Int32} {z_refusals : Nat → Int32} {p0 : Int32} {o : Bool} (h : f_X10_isBounded p0 z_hasUnit = some o) : Std g l yX10_isBounded (.code yX10_isBounded cX10_isBounded 2 (some .boolean) :: gw) rm_X10_isBounded A [.ref (q 0), .int p0] (wX g q z_hasUnit z_hasImage t_length t_bytes x_width x_guard x_stages x_fold x_pipe x_near s_at o_lines n_at o_kinds o_operands o_ties u_width u_guard u_bits u_stages u_places u_near u_quarter u_eighth u_ln u_shifts u_angles u_gains u_undos u_digits r_x r_y r_z r_upBits r_steps r_first r_second v_width v_guard v_bits v_stages v_places v_near v_quarter v_eighth v_ln v_shifts v_angles v_gains v_undos v_digits k_x k_y k_z k_upBits k_steps k_first k_second b_jobs b_over b_clocks b_held b_kinds b_operands b_ties b_states b_gone b_toldIn b_broughtIn b_doneIn c_jobs c_over c_clocks c_held c_kinds c_operands c_ties c_states c_gone c_toldIn c_broughtIn c_doneIn d_jobs d_over d_clocks d_held d_kinds d_operands d_ties d_states d_gone d_toldIn d_broughtIn d_doneIn z_refusals) (wX g q z_hasUnit z_hasImage t_length t_bytes x_width x_guard x_stages x_fold x_pipe x_near s_at o_lines n_at o_kinds o_operands o_ties u_width u_guard u_bits u_stages u_places u_near u_quarter u_eighth u_ln u_shifts u_angles u_gains u_undos u_digits r_x r_y r_z r_upBits r_steps r_first r_second v_width v_guard v_bits v_stages v_places v_near v_quarter v_eighth v_ln v_shifts v_angles v_gains v_undos v_digits k_x k_y k_z k_upBits k_steps k_first k_second b_jobs b_over b_clocks b_held b_kinds b_operands b_ties b_states b_gone b_toldIn b_broughtIn b_doneIn c_jobs c_over c_clocks c_held c_kinds c_operands c_ties c_states c_gone c_toldIn c_broughtIn c_doneIn d_jobs d_over d_clocks d_held d_kinds d_operands d_ties d_states d_gone d_toldIn d_broughtIn d_doneIn z_refusals) (some (.int (bI o))) := by
  refine std_z (own := RX10) (by decide +kernel) rfl (Nat.le_of_ble_eq_true rfl) ?_
  intro p e s m args below meth c Q X ret H locs hP hS ls hl
  have hx := X.1
  have hb := X.2.1
  have hl : lv_has ls 2 [(0, .ref (q 0)), (1, .int p0)] := hl
  have ret : ∀ {H : Heap} {locs : List Loc} {pc : Nat} {ls : Array Slot} {v : Bool} , some (v) = some o → WP g A (wX g q z_hasUnit z_hasImage t_length t_bytes x_width x_guard x_stages x_fold x_pipe x_near s_at o_lines n_at o_kinds o_operands o_ties u_width u_guard u_bits u_stages u_places u_near u_quarter u_eighth u_ln u_shifts u_angles u_gains u_undos u_digits r_x r_y r_z r_upBits r_steps r_first r_second v_width v_guard v_bits v_stages v_places v_near v_quarter v_eighth v_ln v_shifts v_angles v_gains v_undos v_digits k_x k_y k_z k_upBits k_steps k_first k_second b_jobs b_over b_clocks b_held b_kinds b_operands b_ties b_states b_gone b_toldIn b_broughtIn b_doneIn c_jobs c_over c_clocks c_held c_kinds c_operands c_ties c_states c_gone c_toldIn c_broughtIn c_doneIn d_jobs d_over d_clocks d_held d_kinds d_operands d_ties d_states d_gone d_toldIn d_broughtIn d_doneIn z_refusals) H → va_S A s.heap H locs → decode cX10_isBounded pc = .ok (.ireturn, 1) → W p l e rm_X10_isBounded s m args below meth c H locs 0 0 Q (F0 m pc ls [.int (bI v)]) := by
    intro H locs pc ls v h hP hS hd
    cases h
    exact ret hP hS hd
  unfold f_X10_isBounded at h
  refine lv_aload_n hx hb dX10_isBounded_0 rfl (lv_at hl 0 rfl) ?_
  refine gf_X10_110_X_0 X hP dX10_isBounded_1 ?_
  refine jx1 h (P := fun (v1 : Bool) => ∀ ls : Array Slot, lv_has ls 2 [] → W p l e rm_X10_isBounded s m args below meth c H locs 0 0 Q (F0 m 22 ls [.int (bI v1)])) ?_ ?_
  · intro v1 h ls hl
    exact ret h hP hS dX10_isBounded_22
  · intro J h
    refine rb_eq (tgt := 21) hx hb dX10_isBounded_4 rfl (fun c4 => ?_) (fun c4 => ?_)
    · refine lv_iconst (v := 0) hx hb dX10_isBounded_21 rfl ?_
      exact J _ (lt_in c4 h) ls (lv_sub hl [] rfl)
    · refine lv_iload_n hx hb dX10_isBounded_7 rfl (lv_at hl 1 rfl) ?_
      refine lv_if_eq (tgt := 17) hx hb dX10_isBounded_8 rfl (fun c8 => ?_) (fun c8 => ?_)
      · refine lv_iconst (v := 1) hx hb dX10_isBounded_17 rfl ?_
        refine lv_goto (tgt := 22) hx hb dX10_isBounded_18 rfl ?_
        exact J _ (lt_ip c8 (lt_ip c4 h)) ls (lv_sub hl [] rfl)
      · refine lv_iload_n hx hb dX10_isBounded_11 rfl (lv_at hl 1 rfl) ?_
        refine lv_bipush (v := 6) hx hb dX10_isBounded_12 rfl ?_
        refine lv_icmp_ne (tgt := 21) hx hb dX10_isBounded_14 rfl (fun c14 => ?_) (fun c14 => ?_)
        · refine lv_iconst (v := 0) hx hb dX10_isBounded_21 rfl ?_
          exact J _ (lt_in c14 (lt_in c8 (lt_ip c4 h))) ls (lv_sub hl [] rfl)
        · refine lv_iconst (v := 1) hx hb dX10_isBounded_17 rfl ?_
          refine lv_goto (tgt := 22) hx hb dX10_isBounded_18 rfl ?_
          exact J _ (lt_ip c14 (lt_in c8 (lt_ip c4 h))) ls (lv_sub hl [] rfl)
