abbrev rm_X10_off : Room := { frames := 1, cells := 0, slots := 0, locals := 26 }
set_option maxRecDepth 100000 in
set_option maxHeartbeats 4000000 in
theorem c_X10_off {g : gT} {l : Launch} {A : Nat → Prop} {q : Nat → Nat} {z_hasUnit : Bool} {z_hasImage : Bool} {t_length : Int32} {t_bytes : Nat → Int32} {x_width : Int32} {x_guard : Int32} {x_stages : Int32} {x_fold : Int32} {x_pipe : Bool} {x_near : Bool} {s_at : Int32} {o_lines : Int32} {n_at : Int32} {o_kinds : Nat → Int32} {o_operands : Nat → Int32} {o_ties : Nat → Int32} {u_width : Int32} {u_guard : Int32} {u_bits : Int32} {u_stages : Int32} {u_places : Int32} {u_near : Bool} {u_quarter : Int64} {u_eighth : Int64} {u_ln : Int64} {u_shifts : Nat → Int32} {u_angles : Nat → Int64} {u_gains : Nat → Int64} {u_undos : Nat → Int64} {u_digits : Nat → Int32} {r_x : Int64} {r_y : Int64} {r_z : Int64} {r_upBits : Int32} {r_steps : Int32} {r_first : Int64} {r_second : Int64} {v_width : Int32} {v_guard : Int32} {v_bits : Int32} {v_stages : Int32} {v_places : Int32} {v_near : Bool} {v_quarter : Int64} {v_eighth : Int64} {v_ln : Int64} {v_shifts : Nat → Int32} {v_angles : Nat → Int64} {v_gains : Nat → Int64} {v_undos : Nat → Int64} {v_digits : Nat → Int32} {k_x : Int64} {k_y : Int64} {k_z : Int64} {k_upBits : Int32} {k_steps : Int32} {k_first : Int64} {k_second : Int64} {b_jobs : Int32} {b_over : Int32} {b_clocks : Int32} {b_held : Bool} {b_kinds : Nat → Int32} {b_operands : Nat → Int32} {b_ties : Nat → Int32} {b_states : Nat → Int32} {b_gone : Nat → Int32} {b_toldIn : Nat → Int32} {b_broughtIn : Nat → Int32} {b_doneIn : Nat → Int32} {c_jobs : Int32} {c_over : Int32} {c_clocks : Int32} {c_held : Bool} {c_kinds : Nat → Int32} {c_operands : Nat → Int32} {c_ties : Nat → Int32} {c_states : Nat → Int32} {c_gone : Nat → Int32} {c_toldIn : Nat → Int32} {c_broughtIn : Nat → Int32} {c_doneIn : Nat → Int32} {d_jobs : Int32} {d_over : Int32} {d_clocks : Int32} {d_held : Bool} {d_kinds : Nat → Int32} {d_operands : Nat → Int32} {d_ties : Nat → Int32} {d_states : Nat → Int32} {d_gone : Nat → Int32} {d_toldIn : Nat → Int32} {d_broughtIn : Nat → Int32} {d_doneIn : Nat → Int32} {z_refusals : Nat → Int32} {p0 : Int32} {o : Int32} (h : f_X10_off p0 z_hasUnit u_guard u_stages u_angles = some o) : Std g l yX10_off (.code yX10_off cX10_off 2 (some .int) :: gw) rm_X10_off A [.ref (q 0), .int p0] (wX g q z_hasUnit z_hasImage t_length t_bytes x_width x_guard x_stages x_fold x_pipe x_near s_at o_lines n_at o_kinds o_operands o_ties u_width u_guard u_bits u_stages u_places u_near u_quarter u_eighth u_ln u_shifts u_angles u_gains u_undos u_digits r_x r_y r_z r_upBits r_steps r_first r_second v_width v_guard v_bits v_stages v_places v_near v_quarter v_eighth v_ln v_shifts v_angles v_gains v_undos v_digits k_x k_y k_z k_upBits k_steps k_first k_second b_jobs b_over b_clocks b_held b_kinds b_operands b_ties b_states b_gone b_toldIn b_broughtIn b_doneIn c_jobs c_over c_clocks c_held c_kinds c_operands c_ties c_states c_gone c_toldIn c_broughtIn c_doneIn d_jobs d_over d_clocks d_held d_kinds d_operands d_ties d_states d_gone d_toldIn d_broughtIn d_doneIn z_refusals) (wX g q z_hasUnit z_hasImage t_length t_bytes x_width x_guard x_stages x_fold x_pipe x_near s_at o_lines n_at o_kinds o_operands o_ties u_width u_guard u_bits u_stages u_places u_near u_quarter u_eighth u_ln u_shifts u_angles u_gains u_undos u_digits r_x r_y r_z r_upBits r_steps r_first r_second v_width v_guard v_bits v_stages v_places v_near v_quarter v_eighth v_ln v_shifts v_angles v_gains v_undos v_digits k_x k_y k_z k_upBits k_steps k_first k_second b_jobs b_over b_clocks b_held b_kinds b_operands b_ties b_states b_gone b_toldIn b_broughtIn b_doneIn c_jobs c_over c_clocks c_held c_kinds c_operands c_ties c_states c_gone c_toldIn c_broughtIn c_doneIn d_jobs d_over d_clocks d_held d_kinds d_operands d_ties d_states d_gone d_toldIn d_broughtIn d_doneIn z_refusals) (some (.int o)) := by
  refine std_i (own := RX10) (by decide +kernel) rfl (Nat.le_of_ble_eq_true rfl) ?_
  intro p e s m args below meth c Q X ret H locs hP hS ls hl
  have hx := X.1
  have hb := X.2.1
  have hl : lv_has ls 2 [(0, .ref (q 0)), (1, .int p0)] := hl
  have ret : ∀ {H : Heap} {locs : List Loc} {pc : Nat} {ls : Array Slot} {v : Int32} , some (v) = some o → WP g A (wX g q z_hasUnit z_hasImage t_length t_bytes x_width x_guard x_stages x_fold x_pipe x_near s_at o_lines n_at o_kinds o_operands o_ties u_width u_guard u_bits u_stages u_places u_near u_quarter u_eighth u_ln u_shifts u_angles u_gains u_undos u_digits r_x r_y r_z r_upBits r_steps r_first r_second v_width v_guard v_bits v_stages v_places v_near v_quarter v_eighth v_ln v_shifts v_angles v_gains v_undos v_digits k_x k_y k_z k_upBits k_steps k_first k_second b_jobs b_over b_clocks b_held b_kinds b_operands b_ties b_states b_gone b_toldIn b_broughtIn b_doneIn c_jobs c_over c_clocks c_held c_kinds c_operands c_ties c_states c_gone c_toldIn c_broughtIn c_doneIn d_jobs d_over d_clocks d_held d_kinds d_operands d_ties d_states d_gone d_toldIn d_broughtIn d_doneIn z_refusals) H → va_S A s.heap H locs → decode cX10_off pc = .ok (.ireturn, 1) → W p l e rm_X10_off s m args below meth c H locs 0 0 Q (F0 m pc ls [.int v]) := by
    intro H locs pc ls v h hP hS hd
    cases h
    exact ret hP hS hd
  unfold f_X10_off at h
  refine lv_aload_n hx hb dX10_off_0 rfl (lv_at hl 0 rfl) ?_
  refine lv_iload_n hx hb dX10_off_1 rfl (lv_at hl 1 rfl) ?_
  obtain ⟨o1, hco1, h⟩ := bd_of h
  refine kV (rest := []) X dX10_off_2 wd_4_17 mw_X10_isBounded wd_4_19 wp_4_11 hP (k0 := 0) rfl rfl rfl hS (fun _ z => z) (c_X10_isBounded hco1) rfl hl.1 rfl (Nat.le_of_ble_eq_true rfl) rfl rfl ⟨Nat.le_of_ble_eq_true rfl, Nat.le_of_ble_eq_true rfl⟩ (fun H locs hP _ _ hS => ?_)
  refine W.eq (g2 := F0 m 5 ls [.int (bI o1)]) rfl ?_
  refine rb_eq (tgt := 27) hx hb dX10_off_5 rfl (fun c5 => ?_) (fun c5 => ?_)
  · have h := br_n c5 h
    refine lv_iconst (v := (-1)) hx hb dX10_off_27 rfl ?_
    exact ret h hP hS dX10_off_28
  · have h := br_p c5 h
    refine lv_aload_n hx hb dX10_off_8 rfl (lv_at hl 0 rfl) ?_
    refine gf_X10_37_X_0 X hP dX10_off_9 ?_
    refine lv_iload_n hx hb dX10_off_12 rfl (lv_at hl 1 rfl) ?_
    refine lv_aload_n hx hb dX10_off_13 rfl (lv_at hl 0 rfl) ?_
    refine gf_X10_37_X_0 X hP dX10_off_14 ?_
    refine gf_X10_116_X_10 X hP dX10_off_17 ?_
    obtain ⟨o2, hco2, h⟩ := bd_of h
    obtain ⟨hF, hFA⟩ := fo_X_Unit_10 hP
    refine kVN (rest := []) X dX10_off_20 wd_4_21 mw_X8_farthest wd_4_23 wp_4_12 hF (k0 := 0) rfl rfl rfl hS hFA (c_X8_farthest hco2) rfl hl.1 rfl (Nat.le_of_ble_eq_true rfl) rfl rfl ⟨Nat.le_of_ble_eq_true rfl, Nat.le_of_ble_eq_true rfl⟩ (fun H locs hF1 _ hk hS => ?_)
    have hP := un_X_Unit_10 hP hk hF1
    refine W.eq (g2 := F0 m 23 ls [.long o2]) rfl ?_
    refine lv_l2i hx hb dX10_off_23 rfl ?_
    refine lv_goto (tgt := 28) hx hb dX10_off_24 rfl ?_
    exact ret h hP hS dX10_off_28
abbrev rm_X10_refuse : Room := { frames := 0, cells := 0, slots := 0, locals := 0 }
set_option maxRecDepth 100000 in
set_option maxHeartbeats 4000000 in
theorem c_X10_refuse {g : gT} {l : Launch} {A : Nat → Prop} {q : Nat → Nat} {z_hasUnit : Bool} {z_hasImage : Bool} {t_length : Int32} {t_bytes : Nat → Int32} {x_width : Int32} {x_guard : Int32} {x_stages : Int32} {x_fold : Int32} {x_pipe : Bool} {x_near : Bool} {s_at : Int32} {o_lines : Int32} {n_at : Int32} {o_kinds : Nat → Int32} {o_operands : Nat → Int32} {o_ties : Nat → Int32} {u_width : Int32} {u_guard : Int32} {u_bits : Int32} {u_stages : Int32} {u_places : Int32} {u_near : Bool} {u_quarter : Int64} {u_eighth : Int64} {u_ln : Int64} {u_shifts : Nat → Int32} {u_angles : Nat → Int64} {u_gains : Nat → Int64} {u_undos : Nat → Int64} {u_digits : Nat → Int32} {r_x : Int64} {r_y : Int64} {r_z : Int64} {r_upBits : Int32} {r_steps : Int32} {r_first : Int64} {r_second : Int64} {v_width : Int32} {v_guard : Int32} {v_bits : Int32} {v_stages : Int32} {v_places : Int32} {v_near : Bool} {v_quarter : Int64} {v_eighth : Int64} {v_ln : Int64} {v_shifts : Nat → Int32} {v_angles : Nat → Int64} {v_gains : Nat → Int64} {v_undos : Nat → Int64} {v_digits : Nat → Int32} {k_x : Int64} {k_y : Int64} {k_z : Int64} {k_upBits : Int32} {k_steps : Int32} {k_first : Int64} {k_second : Int64} {b_jobs : Int32} {b_over : Int32} {b_clocks : Int32} {b_held : Bool} {b_kinds : Nat → Int32} {b_operands : Nat → Int32} {b_ties : Nat → Int32} {b_states : Nat → Int32} {b_gone : Nat → Int32} {b_toldIn : Nat → Int32} {b_broughtIn : Nat → Int32} {b_doneIn : Nat → Int32} {c_jobs : Int32} {c_over : Int32} {c_clocks : Int32} {c_held : Bool} {c_kinds : Nat → Int32} {c_operands : Nat → Int32} {c_ties : Nat → Int32} {c_states : Nat → Int32} {c_gone : Nat → Int32} {c_toldIn : Nat → Int32} {c_broughtIn : Nat → Int32} {c_doneIn : Nat → Int32} {d_jobs : Int32} {d_over : Int32} {d_clocks : Int32} {d_held : Bool} {d_kinds : Nat → Int32} {d_operands : Nat → Int32} {d_ties : Nat → Int32} {d_states : Nat → Int32} {d_gone : Nat → Int32} {d_toldIn : Nat → Int32} {d_broughtIn : Nat → Int32} {d_doneIn : Nat → Int32} {z_refusals : Nat → Int32} {p0 : Int32} {o : Int32 × (Nat → Int32)} (h : f_X10_refuse p0 z_refusals = some o) : Std g l yX10_refuse (.code yX10_refuse cX10_refuse 2 (some .int) :: gw) rm_X10_refuse A [.ref (q 0), .int p0] (wX g q z_hasUnit z_hasImage t_length t_bytes x_width x_guard x_stages x_fold x_pipe x_near s_at o_lines n_at o_kinds o_operands o_ties u_width u_guard u_bits u_stages u_places u_near u_quarter u_eighth u_ln u_shifts u_angles u_gains u_undos u_digits r_x r_y r_z r_upBits r_steps r_first r_second v_width v_guard v_bits v_stages v_places v_near v_quarter v_eighth v_ln v_shifts v_angles v_gains v_undos v_digits k_x k_y k_z k_upBits k_steps k_first k_second b_jobs b_over b_clocks b_held b_kinds b_operands b_ties b_states b_gone b_toldIn b_broughtIn b_doneIn c_jobs c_over c_clocks c_held c_kinds c_operands c_ties c_states c_gone c_toldIn c_broughtIn c_doneIn d_jobs d_over d_clocks d_held d_kinds d_operands d_ties d_states d_gone d_toldIn d_broughtIn d_doneIn z_refusals) (wX g q z_hasUnit z_hasImage t_length t_bytes x_width x_guard x_stages x_fold x_pipe x_near s_at o_lines n_at o_kinds o_operands o_ties u_width u_guard u_bits u_stages u_places u_near u_quarter u_eighth u_ln u_shifts u_angles u_gains u_undos u_digits r_x r_y r_z r_upBits r_steps r_first r_second v_width v_guard v_bits v_stages v_places v_near v_quarter v_eighth v_ln v_shifts v_angles v_gains v_undos v_digits k_x k_y k_z k_upBits k_steps k_first k_second b_jobs b_over b_clocks b_held b_kinds b_operands b_ties b_states b_gone b_toldIn b_broughtIn b_doneIn c_jobs c_over c_clocks c_held c_kinds c_operands c_ties c_states c_gone c_toldIn c_broughtIn c_doneIn d_jobs d_over d_clocks d_held d_kinds d_operands d_ties d_states d_gone d_toldIn d_broughtIn d_doneIn o.2) (some (.int o.1)) := by
  refine std_i (own := RX10) (by decide +kernel) rfl (Nat.le_of_ble_eq_true rfl) ?_
  intro p e s m args below meth c Q X ret H locs hP hS ls hl
  have hx := X.1
  have hb := X.2.1
  have hl : lv_has ls 2 [(0, .ref (q 0)), (1, .int p0)] := hl
  have ret : ∀ {H : Heap} {locs : List Loc} {pc : Nat} {ls : Array Slot} {v : Int32} {z_refusals : Nat → Int32}, some (v, z_refusals) = some o → WP g A (wX g q z_hasUnit z_hasImage t_length t_bytes x_width x_guard x_stages x_fold x_pipe x_near s_at o_lines n_at o_kinds o_operands o_ties u_width u_guard u_bits u_stages u_places u_near u_quarter u_eighth u_ln u_shifts u_angles u_gains u_undos u_digits r_x r_y r_z r_upBits r_steps r_first r_second v_width v_guard v_bits v_stages v_places v_near v_quarter v_eighth v_ln v_shifts v_angles v_gains v_undos v_digits k_x k_y k_z k_upBits k_steps k_first k_second b_jobs b_over b_clocks b_held b_kinds b_operands b_ties b_states b_gone b_toldIn b_broughtIn b_doneIn c_jobs c_over c_clocks c_held c_kinds c_operands c_ties c_states c_gone c_toldIn c_broughtIn c_doneIn d_jobs d_over d_clocks d_held d_kinds d_operands d_ties d_states d_gone d_toldIn d_broughtIn d_doneIn z_refusals) H → va_S A s.heap H locs → decode cX10_refuse pc = .ok (.ireturn, 1) → W p l e rm_X10_refuse s m args below meth c H locs 0 0 Q (F0 m pc ls [.int v]) := by
    intro H locs pc ls v z_refusals h hP hS hd
    cases h
    exact ret hP hS hd
  unfold f_X10_refuse at h
  refine lv_aload_n hx hb dX10_refuse_0 rfl (lv_at hl 0 rfl) ?_
  refine gf_X10_70_X_0 X hP dX10_refuse_1 ?_
  refine lv_iload_n hx hb dX10_refuse_4 rfl (lv_at hl 1 rfl) ?_
  refine lv_dup2_11 hx hb dX10_refuse_5 rfl rfl ?_
  obtain ⟨hi6, h⟩ := gv_of h
  refine al_X_51 X hP hi6 dX10_refuse_6 ?_
  refine lv_iconst (v := 1) hx hb dX10_refuse_7 rfl ?_
  refine lv_iadd hx hb dX10_refuse_8 ?_
  refine lv_topi (fun v1 ev1 => ?_)
  have h := lt_at ev1 h
  obtain ⟨hi9, h⟩ := gv_of h
  refine as_X_51 (v0 := v1) X hP hS hi9 dX10_refuse_9 (fun H locs hP hS => ?_)
  refine lv_iconst (v := (-1)) hx hb dX10_refuse_10 rfl ?_
  exact ret h hP hS dX10_refuse_11
abbrev rm_X10_job : Room := { frames := 3, cells := 0, slots := 0, locals := 72 }
set_option maxRecDepth 100000 in
set_option maxHeartbeats 4000000 in
theorem c_X10_job {g : gT} {l : Launch} {A : Nat → Prop} {q : Nat → Nat} {z_hasUnit : Bool} {z_hasImage : Bool} {t_length : Int32} {t_bytes : Nat → Int32} {x_width : Int32} {x_guard : Int32} {x_stages : Int32} {x_fold : Int32} {x_pipe : Bool} {x_near : Bool} {s_at : Int32} {o_lines : Int32} {n_at : Int32} {o_kinds : Nat → Int32} {o_operands : Nat → Int32} {o_ties : Nat → Int32} {u_width : Int32} {u_guard : Int32} {u_bits : Int32} {u_stages : Int32} {u_places : Int32} {u_near : Bool} {u_quarter : Int64} {u_eighth : Int64} {u_ln : Int64} {u_shifts : Nat → Int32} {u_angles : Nat → Int64} {u_gains : Nat → Int64} {u_undos : Nat → Int64} {u_digits : Nat → Int32} {r_x : Int64} {r_y : Int64} {r_z : Int64} {r_upBits : Int32} {r_steps : Int32} {r_first : Int64} {r_second : Int64} {v_width : Int32} {v_guard : Int32} {v_bits : Int32} {v_stages : Int32} {v_places : Int32} {v_near : Bool} {v_quarter : Int64} {v_eighth : Int64} {v_ln : Int64} {v_shifts : Nat → Int32} {v_angles : Nat → Int64} {v_gains : Nat → Int64} {v_undos : Nat → Int64} {v_digits : Nat → Int32} {k_x : Int64} {k_y : Int64} {k_z : Int64} {k_upBits : Int32} {k_steps : Int32} {k_first : Int64} {k_second : Int64} {b_jobs : Int32} {b_over : Int32} {b_clocks : Int32} {b_held : Bool} {b_kinds : Nat → Int32} {b_operands : Nat → Int32} {b_ties : Nat → Int32} {b_states : Nat → Int32} {b_gone : Nat → Int32} {b_toldIn : Nat → Int32} {b_broughtIn : Nat → Int32} {b_doneIn : Nat → Int32} {c_jobs : Int32} {c_over : Int32} {c_clocks : Int32} {c_held : Bool} {c_kinds : Nat → Int32} {c_operands : Nat → Int32} {c_ties : Nat → Int32} {c_states : Nat → Int32} {c_gone : Nat → Int32} {c_toldIn : Nat → Int32} {c_broughtIn : Nat → Int32} {c_doneIn : Nat → Int32} {d_jobs : Int32} {d_over : Int32} {d_clocks : Int32} {d_held : Bool} {d_kinds : Nat → Int32} {d_operands : Nat → Int32} {d_ties : Nat → Int32} {d_states : Nat → Int32} {d_gone : Nat → Int32} {d_toldIn : Nat → Int32} {d_broughtIn : Nat → Int32} {d_doneIn : Nat → Int32} {z_refusals : Nat → Int32} {p0 : Int32} {p1 : Int32} {p2 : Int32} {p3 : Int32} {o : Int32 × Int32 × (Nat → Int32) × (Nat → Int32) × (Nat → Int32) × (Nat → Int32) × (Nat → Int32) × (Nat → Int32) × (Nat → Int32) × (Nat → Int32) × (Nat → Int32)} (h : f_X10_job p0 p1 p2 p3 z_hasUnit u_width b_jobs b_clocks b_kinds b_operands b_ties b_states b_gone b_toldIn b_broughtIn b_doneIn z_refusals = some o) : Std g l yX10_job (.code yX10_job cX10_job 5 (some .int) :: gw) rm_X10_job A [.ref (q 0), .int p0, .int p1, .int p2, .int p3] (wX g q z_hasUnit z_hasImage t_length t_bytes x_width x_guard x_stages x_fold x_pipe x_near s_at o_lines n_at o_kinds o_operands o_ties u_width u_guard u_bits u_stages u_places u_near u_quarter u_eighth u_ln u_shifts u_angles u_gains u_undos u_digits r_x r_y r_z r_upBits r_steps r_first r_second v_width v_guard v_bits v_stages v_places v_near v_quarter v_eighth v_ln v_shifts v_angles v_gains v_undos v_digits k_x k_y k_z k_upBits k_steps k_first k_second b_jobs b_over b_clocks b_held b_kinds b_operands b_ties b_states b_gone b_toldIn b_broughtIn b_doneIn c_jobs c_over c_clocks c_held c_kinds c_operands c_ties c_states c_gone c_toldIn c_broughtIn c_doneIn d_jobs d_over d_clocks d_held d_kinds d_operands d_ties d_states d_gone d_toldIn d_broughtIn d_doneIn z_refusals) (wX g q z_hasUnit z_hasImage t_length t_bytes x_width x_guard x_stages x_fold x_pipe x_near s_at o_lines n_at o_kinds o_operands o_ties u_width u_guard u_bits u_stages u_places u_near u_quarter u_eighth u_ln u_shifts u_angles u_gains u_undos u_digits r_x r_y r_z r_upBits r_steps r_first r_second v_width v_guard v_bits v_stages v_places v_near v_quarter v_eighth v_ln v_shifts v_angles v_gains v_undos v_digits k_x k_y k_z k_upBits k_steps k_first k_second o.2.1 b_over b_clocks b_held o.2.2.1 o.2.2.2.1 o.2.2.2.2.1 o.2.2.2.2.2.1 o.2.2.2.2.2.2.1 o.2.2.2.2.2.2.2.1 o.2.2.2.2.2.2.2.2.1 o.2.2.2.2.2.2.2.2.2.1 c_jobs c_over c_clocks c_held c_kinds c_operands c_ties c_states c_gone c_toldIn c_broughtIn c_doneIn d_jobs d_over d_clocks d_held d_kinds d_operands d_ties d_states d_gone d_toldIn d_broughtIn d_doneIn o.2.2.2.2.2.2.2.2.2.2) (some (.int o.1)) := by
  refine std_i (own := RX10) (by decide +kernel) rfl (Nat.le_of_ble_eq_true rfl) ?_
  intro p e s m args below meth c Q X ret H locs hP hS ls hl
  have hx := X.1
  have hb := X.2.1
  have hl : lv_has ls 5 [(0, .ref (q 0)), (1, .int p0), (2, .int p1), (3, .int p2), (4, .int p3)] := hl
  have ret : ∀ {H : Heap} {locs : List Loc} {pc : Nat} {ls : Array Slot} {v : Int32} {b_jobs : Int32} {b_kinds : Nat → Int32} {b_operands : Nat → Int32} {b_ties : Nat → Int32} {b_states : Nat → Int32} {b_gone : Nat → Int32} {b_toldIn : Nat → Int32} {b_broughtIn : Nat → Int32} {b_doneIn : Nat → Int32} {z_refusals : Nat → Int32}, some (v, b_jobs, b_kinds, b_operands, b_ties, b_states, b_gone, b_toldIn, b_broughtIn, b_doneIn, z_refusals) = some o → WP g A (wX g q z_hasUnit z_hasImage t_length t_bytes x_width x_guard x_stages x_fold x_pipe x_near s_at o_lines n_at o_kinds o_operands o_ties u_width u_guard u_bits u_stages u_places u_near u_quarter u_eighth u_ln u_shifts u_angles u_gains u_undos u_digits r_x r_y r_z r_upBits r_steps r_first r_second v_width v_guard v_bits v_stages v_places v_near v_quarter v_eighth v_ln v_shifts v_angles v_gains v_undos v_digits k_x k_y k_z k_upBits k_steps k_first k_second b_jobs b_over b_clocks b_held b_kinds b_operands b_ties b_states b_gone b_toldIn b_broughtIn b_doneIn c_jobs c_over c_clocks c_held c_kinds c_operands c_ties c_states c_gone c_toldIn c_broughtIn c_doneIn d_jobs d_over d_clocks d_held d_kinds d_operands d_ties d_states d_gone d_toldIn d_broughtIn d_doneIn z_refusals) H → va_S A s.heap H locs → decode cX10_job pc = .ok (.ireturn, 1) → W p l e rm_X10_job s m args below meth c H locs 0 0 Q (F0 m pc ls [.int v]) := by
    intro H locs pc ls v b_jobs b_kinds b_operands b_ties b_states b_gone b_toldIn b_broughtIn b_doneIn z_refusals h hP hS hd
    cases h
    exact ret hP hS hd
  unfold f_X10_job at h
  refine lv_aload_n hx hb dX10_job_0 rfl (lv_at hl 0 rfl) ?_
  refine lv_iload_n hx hb dX10_job_1 rfl (lv_at hl 1 rfl) ?_
  obtain ⟨o1, hco1, h⟩ := bd_of h
  refine kV (rest := []) X dX10_job_2 wd_3_141 mw_X10_isKind wd_3_143 wp_3_8 hP (k0 := 0) rfl rfl rfl hS (fun _ z => z) (c_X10_isKind hco1) rfl hl.1 rfl (Nat.le_of_ble_eq_true rfl) rfl rfl ⟨Nat.le_of_ble_eq_true rfl, Nat.le_of_ble_eq_true rfl⟩ (fun H locs hP _ _ hS => ?_)
  refine W.eq (g2 := F0 m 5 ls [.int (bI o1)]) rfl ?_
  refine rb_ne (tgt := 14) hx hb dX10_job_5 rfl (fun c5 => ?_) (fun c5 => ?_)
  · have h := br_p c5 h
    refine lv_aload_n hx hb dX10_job_14 rfl (lv_at hl 0 rfl) ?_
    refine gf_X10_46_X_0 X hP dX10_job_15 ?_
    refine lv_iload_n hx hb dX10_job_18 rfl (lv_at hl 1 rfl) ?_
    refine lv_iload_n hx hb dX10_job_19 rfl (lv_at hl 2 rfl) ?_
    refine lv_i2l hx hb dX10_job_20 rfl ?_
    refine lv_iload_n hx hb dX10_job_21 rfl (lv_at hl 3 rfl) ?_
    refine lv_i2l hx hb dX10_job_22 rfl ?_
    refine lv_iload hx hb dX10_job_23 (lv_at hl 4 rfl) ?_
    refine lv_i2l hx hb dX10_job_25 rfl ?_
    obtain ⟨o2, hco2, h⟩ := bd_of h
    obtain ⟨hF, hFA⟩ := fo_X_Turner_16 hP
    refine kVN (rest := []) X dX10_job_26 wd_4_35 mw_X7_fits wd_3_155 wp_3_10 hF (k0 := 0) rfl rfl rfl hS hFA (c_X7_fits hco2) rfl hl.1 rfl (Nat.le_of_ble_eq_true rfl) rfl rfl ⟨Nat.le_of_ble_eq_true rfl, Nat.le_of_ble_eq_true rfl⟩ (fun H locs hF1 _ hk hS => ?_)
    have hP := un_X_Turner_16 hP hk hF1
    refine W.eq (g2 := F0 m 29 ls [.int (bI o2)]) rfl ?_
    refine rb_ne (tgt := 38) hx hb dX10_job_29 rfl (fun c29 => ?_) (fun c29 => ?_)
    · have h := br_p c29 h
      refine lv_aload_n hx hb dX10_job_38 rfl (lv_at hl 0 rfl) ?_
      refine gf_X10_60_X_0 X hP dX10_job_39 ?_
      refine gf_X10_128_X_24 X hP dX10_job_42 ?_
      refine lv_bipush (v := 60) hx hb dX10_job_45 rfl ?_
      refine lv_icmp_lt (tgt := 56) hx hb dX10_job_47 rfl (fun c47 => ?_) (fun c47 => ?_)
      · have h := br_p c47 h
        refine lv_aload_n hx hb dX10_job_56 rfl (lv_at hl 0 rfl) ?_
        refine gf_X10_60_X_0 X hP dX10_job_57 ?_
        refine lv_iload_n hx hb dX10_job_60 rfl (lv_at hl 1 rfl) ?_
        refine lv_iload_n hx hb dX10_job_61 rfl (lv_at hl 2 rfl) ?_
        refine lv_iload_n hx hb dX10_job_62 rfl (lv_at hl 3 rfl) ?_
        refine lv_iload hx hb dX10_job_63 (lv_at hl 4 rfl) ?_
        obtain ⟨o3, hco3, h⟩ := bd_of h
        obtain ⟨hF, hFA⟩ := fo_X_Book_24 hP
        refine kVN (rest := []) X dX10_job_65 wd_4_36 mw_X1_add wd_4_38 wp_4_14 hF (k0 := 0) rfl rfl rfl hS hFA (c_X1_add hco3) rfl hl.1 rfl (Nat.le_of_ble_eq_true rfl) rfl rfl ⟨Nat.le_of_ble_eq_true rfl, Nat.le_of_ble_eq_true rfl⟩ (fun H locs hF1 _ hk hS => ?_)
        have hP := un_X_Book_24 hP hk hF1
        refine W.eq (g2 := F0 m 68 ls [.int o3.1]) rfl ?_
        exact ret h hP hS dX10_job_68
      · have h := br_n c47 h
        refine lv_aload_n hx hb dX10_job_50 rfl (lv_at hl 0 rfl) ?_
        refine lv_iconst (v := 2) hx hb dX10_job_51 rfl ?_
        obtain ⟨o4, hco4, h⟩ := bd_of h
        refine kV (rest := []) X dX10_job_52 wd_4_31 mw_X10_refuse wd_4_33 wp_4_13 hP (k0 := 0) rfl rfl rfl hS (fun _ z => z) (c_X10_refuse hco4) rfl hl.1 rfl (Nat.le_of_ble_eq_true rfl) rfl rfl ⟨Nat.le_of_ble_eq_true rfl, Nat.le_of_ble_eq_true rfl⟩ (fun H locs hP _ _ hS => ?_)
        refine W.eq (g2 := F0 m 55 ls [.int o4.1]) rfl ?_
        exact ret h hP hS dX10_job_55
    · have h := br_n c29 h
      refine lv_aload_n hx hb dX10_job_32 rfl (lv_at hl 0 rfl) ?_
      refine lv_iconst (v := 1) hx hb dX10_job_33 rfl ?_
      obtain ⟨o5, hco5, h⟩ := bd_of h
      refine kV (rest := []) X dX10_job_34 wd_4_31 mw_X10_refuse wd_4_33 wp_4_13 hP (k0 := 0) rfl rfl rfl hS (fun _ z => z) (c_X10_refuse hco5) rfl hl.1 rfl (Nat.le_of_ble_eq_true rfl) rfl rfl ⟨Nat.le_of_ble_eq_true rfl, Nat.le_of_ble_eq_true rfl⟩ (fun H locs hP _ _ hS => ?_)
      refine W.eq (g2 := F0 m 37 ls [.int o5.1]) rfl ?_
      exact ret h hP hS dX10_job_37
  · have h := br_n c5 h
    refine lv_aload_n hx hb dX10_job_8 rfl (lv_at hl 0 rfl) ?_
    refine lv_iconst (v := 0) hx hb dX10_job_9 rfl ?_
    obtain ⟨o6, hco6, h⟩ := bd_of h
    refine kV (rest := []) X dX10_job_10 wd_4_31 mw_X10_refuse wd_4_33 wp_4_13 hP (k0 := 0) rfl rfl rfl hS (fun _ z => z) (c_X10_refuse hco6) rfl hl.1 rfl (Nat.le_of_ble_eq_true rfl) rfl rfl ⟨Nat.le_of_ble_eq_true rfl, Nat.le_of_ble_eq_true rfl⟩ (fun H locs hP _ _ hS => ?_)
    refine W.eq (g2 := F0 m 13 ls [.int o6.1]) rfl ?_
    exact ret h hP hS dX10_job_13
abbrev rm_X10_linesFit : Room := { frames := 3, cells := 0, slots := 0, locals := 72 }
set_option maxRecDepth 100000 in
set_option maxHeartbeats 4000000 in
theorem c_X10_linesFit {g : gT} {l : Launch} {A : Nat → Prop} {q : Nat → Nat} {z_hasUnit : Bool} {z_hasImage : Bool} {t_length : Int32} {t_bytes : Nat → Int32} {x_width : Int32} {x_guard : Int32} {x_stages : Int32} {x_fold : Int32} {x_pipe : Bool} {x_near : Bool} {s_at : Int32} {o_lines : Int32} {n_at : Int32} {o_kinds : Nat → Int32} {o_operands : Nat → Int32} {o_ties : Nat → Int32} {u_width : Int32} {u_guard : Int32} {u_bits : Int32} {u_stages : Int32} {u_places : Int32} {u_near : Bool} {u_quarter : Int64} {u_eighth : Int64} {u_ln : Int64} {u_shifts : Nat → Int32} {u_angles : Nat → Int64} {u_gains : Nat → Int64} {u_undos : Nat → Int64} {u_digits : Nat → Int32} {r_x : Int64} {r_y : Int64} {r_z : Int64} {r_upBits : Int32} {r_steps : Int32} {r_first : Int64} {r_second : Int64} {v_width : Int32} {v_guard : Int32} {v_bits : Int32} {v_stages : Int32} {v_places : Int32} {v_near : Bool} {v_quarter : Int64} {v_eighth : Int64} {v_ln : Int64} {v_shifts : Nat → Int32} {v_angles : Nat → Int64} {v_gains : Nat → Int64} {v_undos : Nat → Int64} {v_digits : Nat → Int32} {k_x : Int64} {k_y : Int64} {k_z : Int64} {k_upBits : Int32} {k_steps : Int32} {k_first : Int64} {k_second : Int64} {b_jobs : Int32} {b_over : Int32} {b_clocks : Int32} {b_held : Bool} {b_kinds : Nat → Int32} {b_operands : Nat → Int32} {b_ties : Nat → Int32} {b_states : Nat → Int32} {b_gone : Nat → Int32} {b_toldIn : Nat → Int32} {b_broughtIn : Nat → Int32} {b_doneIn : Nat → Int32} {c_jobs : Int32} {c_over : Int32} {c_clocks : Int32} {c_held : Bool} {c_kinds : Nat → Int32} {c_operands : Nat → Int32} {c_ties : Nat → Int32} {c_states : Nat → Int32} {c_gone : Nat → Int32} {c_toldIn : Nat → Int32} {c_broughtIn : Nat → Int32} {c_doneIn : Nat → Int32} {d_jobs : Int32} {d_over : Int32} {d_clocks : Int32} {d_held : Bool} {d_kinds : Nat → Int32} {d_operands : Nat → Int32} {d_ties : Nat → Int32} {d_states : Nat → Int32} {d_gone : Nat → Int32} {d_toldIn : Nat → Int32} {d_broughtIn : Nat → Int32} {d_doneIn : Nat → Int32} {z_refusals : Nat → Int32}  {o : Bool} (h : f_X10_linesFit  o_lines o_kinds o_operands o_ties u_width = some o) : Std g l yX10_linesFit (.code yX10_linesFit cX10_linesFit 3 (some .boolean) :: gw) rm_X10_linesFit A [.ref (q 0)] (wX g q z_hasUnit z_hasImage t_length t_bytes x_width x_guard x_stages x_fold x_pipe x_near s_at o_lines n_at o_kinds o_operands o_ties u_width u_guard u_bits u_stages u_places u_near u_quarter u_eighth u_ln u_shifts u_angles u_gains u_undos u_digits r_x r_y r_z r_upBits r_steps r_first r_second v_width v_guard v_bits v_stages v_places v_near v_quarter v_eighth v_ln v_shifts v_angles v_gains v_undos v_digits k_x k_y k_z k_upBits k_steps k_first k_second b_jobs b_over b_clocks b_held b_kinds b_operands b_ties b_states b_gone b_toldIn b_broughtIn b_doneIn c_jobs c_over c_clocks c_held c_kinds c_operands c_ties c_states c_gone c_toldIn c_broughtIn c_doneIn d_jobs d_over d_clocks d_held d_kinds d_operands d_ties d_states d_gone d_toldIn d_broughtIn d_doneIn z_refusals) (wX g q z_hasUnit z_hasImage t_length t_bytes x_width x_guard x_stages x_fold x_pipe x_near s_at o_lines n_at o_kinds o_operands o_ties u_width u_guard u_bits u_stages u_places u_near u_quarter u_eighth u_ln u_shifts u_angles u_gains u_undos u_digits r_x r_y r_z r_upBits r_steps r_first r_second v_width v_guard v_bits v_stages v_places v_near v_quarter v_eighth v_ln v_shifts v_angles v_gains v_undos v_digits k_x k_y k_z k_upBits k_steps k_first k_second b_jobs b_over b_clocks b_held b_kinds b_operands b_ties b_states b_gone b_toldIn b_broughtIn b_doneIn c_jobs c_over c_clocks c_held c_kinds c_operands c_ties c_states c_gone c_toldIn c_broughtIn c_doneIn d_jobs d_over d_clocks d_held d_kinds d_operands d_ties d_states d_gone d_toldIn d_broughtIn d_doneIn z_refusals) (some (.int (bI o))) := by
  refine std_z (own := RX10) (by decide +kernel) rfl (Nat.le_of_ble_eq_true rfl) ?_
  intro p e s m args below meth c Q X ret H locs hP hS ls hl
  have hx := X.1
  have hb := X.2.1
  have hl : lv_has ls 3 [(0, .ref (q 0))] := hl
  have ret : ∀ {H : Heap} {locs : List Loc} {pc : Nat} {ls : Array Slot} {v : Bool} , some (v) = some o → WP g A (wX g q z_hasUnit z_hasImage t_length t_bytes x_width x_guard x_stages x_fold x_pipe x_near s_at o_lines n_at o_kinds o_operands o_ties u_width u_guard u_bits u_stages u_places u_near u_quarter u_eighth u_ln u_shifts u_angles u_gains u_undos u_digits r_x r_y r_z r_upBits r_steps r_first r_second v_width v_guard v_bits v_stages v_places v_near v_quarter v_eighth v_ln v_shifts v_angles v_gains v_undos v_digits k_x k_y k_z k_upBits k_steps k_first k_second b_jobs b_over b_clocks b_held b_kinds b_operands b_ties b_states b_gone b_toldIn b_broughtIn b_doneIn c_jobs c_over c_clocks c_held c_kinds c_operands c_ties c_states c_gone c_toldIn c_broughtIn c_doneIn d_jobs d_over d_clocks d_held d_kinds d_operands d_ties d_states d_gone d_toldIn d_broughtIn d_doneIn z_refusals) H → va_S A s.heap H locs → decode cX10_linesFit pc = .ok (.ireturn, 1) → W p l e rm_X10_linesFit s m args below meth c H locs 0 0 Q (F0 m pc ls [.int (bI v)]) := by
    intro H locs pc ls v h hP hS hd
    cases h
    exact ret hP hS hd
  have b83 : ∀ (k2 : Int32 → Option (Bool)) (hk2 : ∀ (x1 : Int32) (H : Heap) (locs : List Loc) (ls : Array Slot), k2 x1 = some o → WP g A (wX g q z_hasUnit z_hasImage t_length t_bytes x_width x_guard x_stages x_fold x_pipe x_near s_at o_lines n_at o_kinds o_operands o_ties u_width u_guard u_bits u_stages u_places u_near u_quarter u_eighth u_ln u_shifts u_angles u_gains u_undos u_digits r_x r_y r_z r_upBits r_steps r_first r_second v_width v_guard v_bits v_stages v_places v_near v_quarter v_eighth v_ln v_shifts v_angles v_gains v_undos v_digits k_x k_y k_z k_upBits k_steps k_first k_second b_jobs b_over b_clocks b_held b_kinds b_operands b_ties b_states b_gone b_toldIn b_broughtIn b_doneIn c_jobs c_over c_clocks c_held c_kinds c_operands c_ties c_states c_gone c_toldIn c_broughtIn c_doneIn d_jobs d_over d_clocks d_held d_kinds d_operands d_ties d_states d_gone d_toldIn d_broughtIn d_doneIn z_refusals) H → va_S A s.heap H locs → lv_has ls 3 [(0, .ref (q 0)), (1, .int x1)] → W p l e rm_X10_linesFit s m args below meth c H locs 0 0 Q (F0 m 2 ls [])) , ∀ (x1 : Int32) (H : Heap) (locs : List Loc) (ls : Array Slot), f_X10_linesFit_b83  o_lines o_kinds o_operands o_ties u_width k2 x1 = some o → WP g A (wX g q z_hasUnit z_hasImage t_length t_bytes x_width x_guard x_stages x_fold x_pipe x_near s_at o_lines n_at o_kinds o_operands o_ties u_width u_guard u_bits u_stages u_places u_near u_quarter u_eighth u_ln u_shifts u_angles u_gains u_undos u_digits r_x r_y r_z r_upBits r_steps r_first r_second v_width v_guard v_bits v_stages v_places v_near v_quarter v_eighth v_ln v_shifts v_angles v_gains v_undos v_digits k_x k_y k_z k_upBits k_steps k_first k_second b_jobs b_over b_clocks b_held b_kinds b_operands b_ties b_states b_gone b_toldIn b_broughtIn b_doneIn c_jobs c_over c_clocks c_held c_kinds c_operands c_ties c_states c_gone c_toldIn c_broughtIn c_doneIn d_jobs d_over d_clocks d_held d_kinds d_operands d_ties d_states d_gone d_toldIn d_broughtIn d_doneIn z_refusals) H → va_S A s.heap H locs → lv_has ls 3 [(0, .ref (q 0)), (1, .int x1)] → W p l e rm_X10_linesFit s m args below meth c H locs 0 0 Q (F0 m 83 ls []) := by
    intro k2 hk2 x1 H locs ls h hP hS hl
    unfold f_X10_linesFit_b83 at h
    obtain ⟨v3, ev3⟩ : ∃ z : Int32, z = (x1 + 1) := ⟨_, rfl⟩
    have h := lt_at ev3 h
    refine lv_iinc (v := v3) (lv' := [(1, .int v3), (0, .ref (q 0))]) hx hb dX10_linesFit_83 hl (k := 1) rfl (by rw [ev3]; rfl) (by decide) rfl (fun ls hl => ?_)
    refine lv_goto (tgt := 2) hx hb dX10_linesFit_86 rfl ?_
    exact hk2 v3 _ _ _ h hP hS (lv_sub hl [1, 0] rfl)
  have l2 : ∀ (n : Nat), ∀ (x1 : Int32) (H : Heap) (locs : List Loc) (ls : Array Slot), f_X10_linesFit_l2  o_lines o_kinds o_operands o_ties u_width  n x1 = some o → WP g A (wX g q z_hasUnit z_hasImage t_length t_bytes x_width x_guard x_stages x_fold x_pipe x_near s_at o_lines n_at o_kinds o_operands o_ties u_width u_guard u_bits u_stages u_places u_near u_quarter u_eighth u_ln u_shifts u_angles u_gains u_undos u_digits r_x r_y r_z r_upBits r_steps r_first r_second v_width v_guard v_bits v_stages v_places v_near v_quarter v_eighth v_ln v_shifts v_angles v_gains v_undos v_digits k_x k_y k_z k_upBits k_steps k_first k_second b_jobs b_over b_clocks b_held b_kinds b_operands b_ties b_states b_gone b_toldIn b_broughtIn b_doneIn c_jobs c_over c_clocks c_held c_kinds c_operands c_ties c_states c_gone c_toldIn c_broughtIn c_doneIn d_jobs d_over d_clocks d_held d_kinds d_operands d_ties d_states d_gone d_toldIn d_broughtIn d_doneIn z_refusals) H → va_S A s.heap H locs → lv_has ls 3 [(0, .ref (q 0)), (1, .int x1)] → W p l e rm_X10_linesFit s m args below meth c H locs 0 0 Q (F0 m 2 ls []) := by
    intro  n
    induction n with
    | zero =>
      intro x1 H locs ls h
      exact nz_of h
    | succ n ih =>
      intro x1 H locs ls h hP hS hl
      rw [f_X10_linesFit_l2] at h
      refine lv_iload_n hx hb dX10_linesFit_2 rfl (lv_at hl 1 rfl) ?_
      refine lv_aload_n hx hb dX10_linesFit_3 rfl (lv_at hl 0 rfl) ?_
      refine gf_X10_30_X_0 X hP dX10_linesFit_4 ?_
      refine gf_X10_221_X_5 X hP dX10_linesFit_7 ?_
      refine lv_icmp_ge (tgt := 89) hx hb dX10_linesFit_10 rfl (fun c10 => ?_) (fun c10 => ?_)
      · have h := br_p c10 h
        refine lv_iconst (v := 1) hx hb dX10_linesFit_89 rfl ?_
        exact ret h hP hS dX10_linesFit_90
      · have h := br_n c10 h
        refine lv_iload_n hx hb dX10_linesFit_13 rfl (lv_at hl 1 rfl) ?_
        refine lv_iconst (v := 3) hx hb dX10_linesFit_14 rfl ?_
        refine lv_imul hx hb dX10_linesFit_15 ?_
        refine lv_topi (fun v1 ev1 => ?_)
        have h := lt_at ev1 h
        refine lv_istore_n (lv' := [(2, .int v1), (0, .ref (q 0)), (1, .int x1)]) hx hb dX10_linesFit_16 rfl hl (by decide) rfl (fun ls hl => ?_)
        refine lv_aload_n hx hb dX10_linesFit_17 rfl (lv_at hl 1 rfl) ?_
        refine gf_X10_30_X_0 X hP dX10_linesFit_18 ?_
        refine lv_iload_n hx hb dX10_linesFit_21 rfl (lv_at hl 2 rfl) ?_
        obtain ⟨o2, hco2, h⟩ := bd_of h
        obtain ⟨hF, hFA⟩ := fo_X_OText_5 hP
        refine kVN (rest := []) X dX10_linesFit_22 wd_4_48 mw_X3_isTied wd_4_50 wp_5_0 hF (k0 := 0) rfl rfl rfl hS hFA (c_X3_isTied hco2) rfl hl.1 rfl (Nat.le_of_ble_eq_true rfl) rfl rfl ⟨Nat.le_of_ble_eq_true rfl, Nat.le_of_ble_eq_true rfl⟩ (fun H locs hF1 _ hk hS => ?_)
        have hP := un_X_OText_5 hP hk hF1
        refine W.eq (g2 := F0 m 25 ls [.int (bI o2)]) rfl ?_
        refine rb_ne (tgt := 83) hx hb dX10_linesFit_25 rfl (fun c25 => ?_) (fun c25 => ?_)
        · have h := br_p c25 h
          exact b83 (f_X10_linesFit_l2  o_lines o_kinds o_operands o_ties u_width  n) ih  x1 _ _ _ h hP hS (lv_sub hl [1, 2] rfl)
        · have h := br_n c25 h
          refine lv_aload_n hx hb dX10_linesFit_28 rfl (lv_at hl 1 rfl) ?_
          refine gf_X10_46_X_0 X hP dX10_linesFit_29 ?_
          refine lv_aload_n hx hb dX10_linesFit_32 rfl (lv_at hl 1 rfl) ?_
          refine gf_X10_30_X_0 X hP dX10_linesFit_33 ?_
          refine gf_X10_361_X_5 X hP dX10_linesFit_36 ?_
          refine lv_iload_n hx hb dX10_linesFit_39 rfl (lv_at hl 2 rfl) ?_
          obtain ⟨hi40, h⟩ := gv_of h
          refine al_X_7 X hP hi40 dX10_linesFit_40 ?_
          refine lv_aload_n hx hb dX10_linesFit_41 rfl (lv_at hl 1 rfl) ?_
          refine gf_X10_30_X_0 X hP dX10_linesFit_42 ?_
          refine gf_X10_362_X_5 X hP dX10_linesFit_45 ?_
          refine lv_iload_n hx hb dX10_linesFit_48 rfl (lv_at hl 0 rfl) ?_
          obtain ⟨hi49, h⟩ := gv_of h
          refine al_X_8 X hP hi49 dX10_linesFit_49 ?_
          refine lv_i2l hx hb dX10_linesFit_50 rfl ?_
          refine lv_aload_n hx hb dX10_linesFit_51 rfl (lv_at hl 1 rfl) ?_
          refine gf_X10_30_X_0 X hP dX10_linesFit_52 ?_
          refine gf_X10_362_X_5 X hP dX10_linesFit_55 ?_
          refine lv_iload_n hx hb dX10_linesFit_58 rfl (lv_at hl 0 rfl) ?_
          refine lv_iconst (v := 1) hx hb dX10_linesFit_59 rfl ?_
          refine lv_iadd hx hb dX10_linesFit_60 ?_
          obtain ⟨hi61, h⟩ := gv_of h
          refine al_X_8 X hP hi61 dX10_linesFit_61 ?_
          refine lv_i2l hx hb dX10_linesFit_62 rfl ?_
          refine lv_aload_n hx hb dX10_linesFit_63 rfl (lv_at hl 1 rfl) ?_
          refine gf_X10_30_X_0 X hP dX10_linesFit_64 ?_
          refine gf_X10_362_X_5 X hP dX10_linesFit_67 ?_
          refine lv_iload_n hx hb dX10_linesFit_70 rfl (lv_at hl 0 rfl) ?_
          refine lv_iconst (v := 2) hx hb dX10_linesFit_71 rfl ?_
          refine lv_iadd hx hb dX10_linesFit_72 ?_
          obtain ⟨hi73, h⟩ := gv_of h
          refine al_X_8 X hP hi73 dX10_linesFit_73 ?_
          refine lv_i2l hx hb dX10_linesFit_74 rfl ?_
          obtain ⟨o4, hco4, h⟩ := bd_of h
          obtain ⟨hF, hFA⟩ := fo_X_Turner_16 hP
          refine kVN (rest := []) X dX10_linesFit_75 wd_4_35 mw_X7_fits wd_3_155 wp_3_10 hF (k0 := 0) rfl rfl rfl hS hFA (c_X7_fits hco4) rfl hl.1 rfl (Nat.le_of_ble_eq_true rfl) rfl rfl ⟨Nat.le_of_ble_eq_true rfl, Nat.le_of_ble_eq_true rfl⟩ (fun H locs hF1 _ hk hS => ?_)
          have hP := un_X_Turner_16 hP hk hF1
          refine W.eq (g2 := F0 m 78 ls [.int (bI o4)]) rfl ?_
          refine rb_ne (tgt := 83) hx hb dX10_linesFit_78 rfl (fun c78 => ?_) (fun c78 => ?_)
          · have h := br_p c78 h
            exact b83 (f_X10_linesFit_l2  o_lines o_kinds o_operands o_ties u_width  n) ih  x1 _ _ _ h hP hS (lv_sub hl [1, 2] rfl)
          · have h := br_n c78 h
            refine lv_iconst (v := 0) hx hb dX10_linesFit_81 rfl ?_
            exact ret h hP hS dX10_linesFit_82
  unfold f_X10_linesFit at h
  refine lv_iconst (v := 0) hx hb dX10_linesFit_0 rfl ?_
  refine lv_istore_n (lv' := [(1, .int 0), (0, .ref (q 0))]) hx hb dX10_linesFit_1 rfl hl (by decide) rfl (fun ls hl => ?_)
  exact l2  FU (0 : Int32) _ _ _ h hP hS (lv_sub hl [1, 0] rfl)
abbrev rm_X10_takeLines : Room := { frames := 1, cells := 0, slots := 0, locals := 26 }
set_option maxRecDepth 100000 in
set_option maxHeartbeats 4000000 in
theorem c_X10_takeLines {g : gT} {l : Launch} {A : Nat → Prop} {q : Nat → Nat} {z_hasUnit : Bool} {z_hasImage : Bool} {t_length : Int32} {t_bytes : Nat → Int32} {x_width : Int32} {x_guard : Int32} {x_stages : Int32} {x_fold : Int32} {x_pipe : Bool} {x_near : Bool} {s_at : Int32} {o_lines : Int32} {n_at : Int32} {o_kinds : Nat → Int32} {o_operands : Nat → Int32} {o_ties : Nat → Int32} {u_width : Int32} {u_guard : Int32} {u_bits : Int32} {u_stages : Int32} {u_places : Int32} {u_near : Bool} {u_quarter : Int64} {u_eighth : Int64} {u_ln : Int64} {u_shifts : Nat → Int32} {u_angles : Nat → Int64} {u_gains : Nat → Int64} {u_undos : Nat → Int64} {u_digits : Nat → Int32} {r_x : Int64} {r_y : Int64} {r_z : Int64} {r_upBits : Int32} {r_steps : Int32} {r_first : Int64} {r_second : Int64} {v_width : Int32} {v_guard : Int32} {v_bits : Int32} {v_stages : Int32} {v_places : Int32} {v_near : Bool} {v_quarter : Int64} {v_eighth : Int64} {v_ln : Int64} {v_shifts : Nat → Int32} {v_angles : Nat → Int64} {v_gains : Nat → Int64} {v_undos : Nat → Int64} {v_digits : Nat → Int32} {k_x : Int64} {k_y : Int64} {k_z : Int64} {k_upBits : Int32} {k_steps : Int32} {k_first : Int64} {k_second : Int64} {b_jobs : Int32} {b_over : Int32} {b_clocks : Int32} {b_held : Bool} {b_kinds : Nat → Int32} {b_operands : Nat → Int32} {b_ties : Nat → Int32} {b_states : Nat → Int32} {b_gone : Nat → Int32} {b_toldIn : Nat → Int32} {b_broughtIn : Nat → Int32} {b_doneIn : Nat → Int32} {c_jobs : Int32} {c_over : Int32} {c_clocks : Int32} {c_held : Bool} {c_kinds : Nat → Int32} {c_operands : Nat → Int32} {c_ties : Nat → Int32} {c_states : Nat → Int32} {c_gone : Nat → Int32} {c_toldIn : Nat → Int32} {c_broughtIn : Nat → Int32} {c_doneIn : Nat → Int32} {d_jobs : Int32} {d_over : Int32} {d_clocks : Int32} {d_held : Bool} {d_kinds : Nat → Int32} {d_operands : Nat → Int32} {d_ties : Nat → Int32} {d_states : Nat → Int32} {d_gone : Nat → Int32} {d_toldIn : Nat → Int32} {d_broughtIn : Nat → Int32} {d_doneIn : Nat → Int32} {z_refusals : Nat → Int32}  {o : Int32 × (Nat → Int32) × (Nat → Int32) × (Nat → Int32) × (Nat → Int32) × (Nat → Int32) × (Nat → Int32) × (Nat → Int32) × (Nat → Int32)} (h : f_X10_takeLines  o_lines o_kinds o_operands o_ties b_jobs b_clocks b_kinds b_operands b_ties b_states b_gone b_toldIn b_broughtIn b_doneIn = some o) : Std g l yX10_takeLines (.code yX10_takeLines cX10_takeLines 6 none :: gw) rm_X10_takeLines A [.ref (q 0)] (wX g q z_hasUnit z_hasImage t_length t_bytes x_width x_guard x_stages x_fold x_pipe x_near s_at o_lines n_at o_kinds o_operands o_ties u_width u_guard u_bits u_stages u_places u_near u_quarter u_eighth u_ln u_shifts u_angles u_gains u_undos u_digits r_x r_y r_z r_upBits r_steps r_first r_second v_width v_guard v_bits v_stages v_places v_near v_quarter v_eighth v_ln v_shifts v_angles v_gains v_undos v_digits k_x k_y k_z k_upBits k_steps k_first k_second b_jobs b_over b_clocks b_held b_kinds b_operands b_ties b_states b_gone b_toldIn b_broughtIn b_doneIn c_jobs c_over c_clocks c_held c_kinds c_operands c_ties c_states c_gone c_toldIn c_broughtIn c_doneIn d_jobs d_over d_clocks d_held d_kinds d_operands d_ties d_states d_gone d_toldIn d_broughtIn d_doneIn z_refusals) (wX g q z_hasUnit z_hasImage t_length t_bytes x_width x_guard x_stages x_fold x_pipe x_near s_at o_lines n_at o_kinds o_operands o_ties u_width u_guard u_bits u_stages u_places u_near u_quarter u_eighth u_ln u_shifts u_angles u_gains u_undos u_digits r_x r_y r_z r_upBits r_steps r_first r_second v_width v_guard v_bits v_stages v_places v_near v_quarter v_eighth v_ln v_shifts v_angles v_gains v_undos v_digits k_x k_y k_z k_upBits k_steps k_first k_second o.1 b_over b_clocks b_held o.2.1 o.2.2.1 o.2.2.2.1 o.2.2.2.2.1 o.2.2.2.2.2.1 o.2.2.2.2.2.2.1 o.2.2.2.2.2.2.2.1 o.2.2.2.2.2.2.2.2 c_jobs c_over c_clocks c_held c_kinds c_operands c_ties c_states c_gone c_toldIn c_broughtIn c_doneIn d_jobs d_over d_clocks d_held d_kinds d_operands d_ties d_states d_gone d_toldIn d_broughtIn d_doneIn z_refusals) none := by
  refine std_v (own := RX10) (by decide +kernel) rfl (Nat.le_of_ble_eq_true rfl) ?_
  intro p e s m args below meth c Q X ret H locs hP hS ls hl
  have hx := X.1
  have hb := X.2.1
  have hl : lv_has ls 6 [(0, .ref (q 0))] := hl
  have ret : ∀ {H : Heap} {locs : List Loc} {pc : Nat} {ls : Array Slot} {b_jobs : Int32} {b_kinds : Nat → Int32} {b_operands : Nat → Int32} {b_ties : Nat → Int32} {b_states : Nat → Int32} {b_gone : Nat → Int32} {b_toldIn : Nat → Int32} {b_broughtIn : Nat → Int32} {b_doneIn : Nat → Int32}, some (b_jobs, b_kinds, b_operands, b_ties, b_states, b_gone, b_toldIn, b_broughtIn, b_doneIn) = some o → WP g A (wX g q z_hasUnit z_hasImage t_length t_bytes x_width x_guard x_stages x_fold x_pipe x_near s_at o_lines n_at o_kinds o_operands o_ties u_width u_guard u_bits u_stages u_places u_near u_quarter u_eighth u_ln u_shifts u_angles u_gains u_undos u_digits r_x r_y r_z r_upBits r_steps r_first r_second v_width v_guard v_bits v_stages v_places v_near v_quarter v_eighth v_ln v_shifts v_angles v_gains v_undos v_digits k_x k_y k_z k_upBits k_steps k_first k_second b_jobs b_over b_clocks b_held b_kinds b_operands b_ties b_states b_gone b_toldIn b_broughtIn b_doneIn c_jobs c_over c_clocks c_held c_kinds c_operands c_ties c_states c_gone c_toldIn c_broughtIn c_doneIn d_jobs d_over d_clocks d_held d_kinds d_operands d_ties d_states d_gone d_toldIn d_broughtIn d_doneIn z_refusals) H → va_S A s.heap H locs → decode cX10_takeLines pc = .ok (.return_, 1) → W p l e rm_X10_takeLines s m args below meth c H locs 0 0 Q (F0 m pc ls []) := by
    intro H locs pc ls b_jobs b_kinds b_operands b_ties b_states b_gone b_toldIn b_broughtIn b_doneIn h hP hS hd
    cases h
    exact ret hP hS hd
  have b126 : ∀ (k10 : Int32 → Int32 → Int32 → (Nat → Int32) → (Nat → Int32) → (Nat → Int32) → (Nat → Int32) → (Nat → Int32) → (Nat → Int32) → (Nat → Int32) → (Nat → Int32) → Option (Int32 × (Nat → Int32) × (Nat → Int32) × (Nat → Int32) × (Nat → Int32) × (Nat → Int32) × (Nat → Int32) × (Nat → Int32) × (Nat → Int32))) (hk10 : ∀ (x1 : Int32) (x2 : Int32) (b_jobs : Int32) (b_kinds : Nat → Int32) (b_operands : Nat → Int32) (b_ties : Nat → Int32) (b_states : Nat → Int32) (b_gone : Nat → Int32) (b_toldIn : Nat → Int32) (b_broughtIn : Nat → Int32) (b_doneIn : Nat → Int32) (H : Heap) (locs : List Loc) (ls : Array Slot), k10 x1 x2 b_jobs b_kinds b_operands b_ties b_states b_gone b_toldIn b_broughtIn b_doneIn = some o → WP g A (wX g q z_hasUnit z_hasImage t_length t_bytes x_width x_guard x_stages x_fold x_pipe x_near s_at o_lines n_at o_kinds o_operands o_ties u_width u_guard u_bits u_stages u_places u_near u_quarter u_eighth u_ln u_shifts u_angles u_gains u_undos u_digits r_x r_y r_z r_upBits r_steps r_first r_second v_width v_guard v_bits v_stages v_places v_near v_quarter v_eighth v_ln v_shifts v_angles v_gains v_undos v_digits k_x k_y k_z k_upBits k_steps k_first k_second b_jobs b_over b_clocks b_held b_kinds b_operands b_ties b_states b_gone b_toldIn b_broughtIn b_doneIn c_jobs c_over c_clocks c_held c_kinds c_operands c_ties c_states c_gone c_toldIn c_broughtIn c_doneIn d_jobs d_over d_clocks d_held d_kinds d_operands d_ties d_states d_gone d_toldIn d_broughtIn d_doneIn z_refusals) H → va_S A s.heap H locs → lv_has ls 6 [(0, .ref (q 0)), (1, .int x1), (2, .int x2)] → W p l e rm_X10_takeLines s m args below meth c H locs 0 0 Q (F0 m 10 ls [])) (k77 : Int32 → Int32 → Int32 → Int32 → Int32 → Int32 → (Nat → Int32) → (Nat → Int32) → (Nat → Int32) → (Nat → Int32) → (Nat → Int32) → (Nat → Int32) → (Nat → Int32) → (Nat → Int32) → Option (Int32 × (Nat → Int32) × (Nat → Int32) × (Nat → Int32) × (Nat → Int32) × (Nat → Int32) × (Nat → Int32) × (Nat → Int32) × (Nat → Int32))) (hk77 : ∀ (x1 : Int32) (x2 : Int32) (x3 : Int32) (x4 : Int32) (x5 : Int32) (b_jobs : Int32) (b_kinds : Nat → Int32) (b_operands : Nat → Int32) (b_ties : Nat → Int32) (b_states : Nat → Int32) (b_gone : Nat → Int32) (b_toldIn : Nat → Int32) (b_broughtIn : Nat → Int32) (b_doneIn : Nat → Int32) (H : Heap) (locs : List Loc) (ls : Array Slot), k77 x1 x2 x3 x4 x5 b_jobs b_kinds b_operands b_ties b_states b_gone b_toldIn b_broughtIn b_doneIn = some o → WP g A (wX g q z_hasUnit z_hasImage t_length t_bytes x_width x_guard x_stages x_fold x_pipe x_near s_at o_lines n_at o_kinds o_operands o_ties u_width u_guard u_bits u_stages u_places u_near u_quarter u_eighth u_ln u_shifts u_angles u_gains u_undos u_digits r_x r_y r_z r_upBits r_steps r_first r_second v_width v_guard v_bits v_stages v_places v_near v_quarter v_eighth v_ln v_shifts v_angles v_gains v_undos v_digits k_x k_y k_z k_upBits k_steps k_first k_second b_jobs b_over b_clocks b_held b_kinds b_operands b_ties b_states b_gone b_toldIn b_broughtIn b_doneIn c_jobs c_over c_clocks c_held c_kinds c_operands c_ties c_states c_gone c_toldIn c_broughtIn c_doneIn d_jobs d_over d_clocks d_held d_kinds d_operands d_ties d_states d_gone d_toldIn d_broughtIn d_doneIn z_refusals) H → va_S A s.heap H locs → lv_has ls 6 [(0, .ref (q 0)), (1, .int x1), (2, .int x2), (3, .int x3), (4, .int x4), (5, .int x5)] → W p l e rm_X10_takeLines s m args below meth c H locs 0 0 Q (F0 m 77 ls [])) , ∀ (x1 : Int32) (x2 : Int32) (x3 : Int32) (x4 : Int32) (x5 : Int32) (b_jobs : Int32) (b_kinds : Nat → Int32) (b_operands : Nat → Int32) (b_ties : Nat → Int32) (b_states : Nat → Int32) (b_gone : Nat → Int32) (b_toldIn : Nat → Int32) (b_broughtIn : Nat → Int32) (b_doneIn : Nat → Int32) (H : Heap) (locs : List Loc) (ls : Array Slot), f_X10_takeLines_b126  o_lines o_kinds o_operands o_ties b_clocks k10 k77 x1 x2 x3 x4 x5 b_jobs b_kinds b_operands b_ties b_states b_gone b_toldIn b_broughtIn b_doneIn = some o → WP g A (wX g q z_hasUnit z_hasImage t_length t_bytes x_width x_guard x_stages x_fold x_pipe x_near s_at o_lines n_at o_kinds o_operands o_ties u_width u_guard u_bits u_stages u_places u_near u_quarter u_eighth u_ln u_shifts u_angles u_gains u_undos u_digits r_x r_y r_z r_upBits r_steps r_first r_second v_width v_guard v_bits v_stages v_places v_near v_quarter v_eighth v_ln v_shifts v_angles v_gains v_undos v_digits k_x k_y k_z k_upBits k_steps k_first k_second b_jobs b_over b_clocks b_held b_kinds b_operands b_ties b_states b_gone b_toldIn b_broughtIn b_doneIn c_jobs c_over c_clocks c_held c_kinds c_operands c_ties c_states c_gone c_toldIn c_broughtIn c_doneIn d_jobs d_over d_clocks d_held d_kinds d_operands d_ties d_states d_gone d_toldIn d_broughtIn d_doneIn z_refusals) H → va_S A s.heap H locs → lv_has ls 6 [(0, .ref (q 0)), (1, .int x1), (2, .int x2), (3, .int x3), (4, .int x4), (5, .int x5)] → W p l e rm_X10_takeLines s m args below meth c H locs 0 0 Q (F0 m 126 ls []) := by
    intro k10 hk10 k77 hk77 x1 x2 x3 x4 x5 b_jobs b_kinds b_operands b_ties b_states b_gone b_toldIn b_broughtIn b_doneIn H locs ls h hP hS hl
    unfold f_X10_takeLines_b126 at h
    obtain ⟨v4, ev4⟩ : ∃ z : Int32, z = (x5 + 1) := ⟨_, rfl⟩
    have h := lt_at ev4 h
    refine lv_iinc (v := v4) (lv' := [(5, .int v4), (0, .ref (q 0)), (1, .int x1), (2, .int x2), (3, .int x3), (4, .int x4)]) hx hb dX10_takeLines_126 hl (k := 5) rfl (by rw [ev4]; rfl) (by decide) rfl (fun ls hl => ?_)
    refine lv_goto (tgt := 77) hx hb dX10_takeLines_129 rfl ?_
    exact hk77 x1 x2 x3 x4 v4 b_jobs b_kinds b_operands b_ties b_states b_gone b_toldIn b_broughtIn b_doneIn _ _ _ h hP hS (lv_sub hl [1, 2, 3, 4, 5, 0] rfl)
  have l77 : ∀ (k10 : Int32 → Int32 → Int32 → (Nat → Int32) → (Nat → Int32) → (Nat → Int32) → (Nat → Int32) → (Nat → Int32) → (Nat → Int32) → (Nat → Int32) → (Nat → Int32) → Option (Int32 × (Nat → Int32) × (Nat → Int32) × (Nat → Int32) × (Nat → Int32) × (Nat → Int32) × (Nat → Int32) × (Nat → Int32) × (Nat → Int32))) (hk10 : ∀ (x1 : Int32) (x2 : Int32) (b_jobs : Int32) (b_kinds : Nat → Int32) (b_operands : Nat → Int32) (b_ties : Nat → Int32) (b_states : Nat → Int32) (b_gone : Nat → Int32) (b_toldIn : Nat → Int32) (b_broughtIn : Nat → Int32) (b_doneIn : Nat → Int32) (H : Heap) (locs : List Loc) (ls : Array Slot), k10 x1 x2 b_jobs b_kinds b_operands b_ties b_states b_gone b_toldIn b_broughtIn b_doneIn = some o → WP g A (wX g q z_hasUnit z_hasImage t_length t_bytes x_width x_guard x_stages x_fold x_pipe x_near s_at o_lines n_at o_kinds o_operands o_ties u_width u_guard u_bits u_stages u_places u_near u_quarter u_eighth u_ln u_shifts u_angles u_gains u_undos u_digits r_x r_y r_z r_upBits r_steps r_first r_second v_width v_guard v_bits v_stages v_places v_near v_quarter v_eighth v_ln v_shifts v_angles v_gains v_undos v_digits k_x k_y k_z k_upBits k_steps k_first k_second b_jobs b_over b_clocks b_held b_kinds b_operands b_ties b_states b_gone b_toldIn b_broughtIn b_doneIn c_jobs c_over c_clocks c_held c_kinds c_operands c_ties c_states c_gone c_toldIn c_broughtIn c_doneIn d_jobs d_over d_clocks d_held d_kinds d_operands d_ties d_states d_gone d_toldIn d_broughtIn d_doneIn z_refusals) H → va_S A s.heap H locs → lv_has ls 6 [(0, .ref (q 0)), (1, .int x1), (2, .int x2)] → W p l e rm_X10_takeLines s m args below meth c H locs 0 0 Q (F0 m 10 ls [])) (n : Nat), ∀ (x1 : Int32) (x2 : Int32) (x3 : Int32) (x4 : Int32) (x5 : Int32) (b_jobs : Int32) (b_kinds : Nat → Int32) (b_operands : Nat → Int32) (b_ties : Nat → Int32) (b_states : Nat → Int32) (b_gone : Nat → Int32) (b_toldIn : Nat → Int32) (b_broughtIn : Nat → Int32) (b_doneIn : Nat → Int32) (H : Heap) (locs : List Loc) (ls : Array Slot), f_X10_takeLines_l77  o_lines o_kinds o_operands o_ties b_clocks k10 n x1 x2 x3 x4 x5 b_jobs b_kinds b_operands b_ties b_states b_gone b_toldIn b_broughtIn b_doneIn = some o → WP g A (wX g q z_hasUnit z_hasImage t_length t_bytes x_width x_guard x_stages x_fold x_pipe x_near s_at o_lines n_at o_kinds o_operands o_ties u_width u_guard u_bits u_stages u_places u_near u_quarter u_eighth u_ln u_shifts u_angles u_gains u_undos u_digits r_x r_y r_z r_upBits r_steps r_first r_second v_width v_guard v_bits v_stages v_places v_near v_quarter v_eighth v_ln v_shifts v_angles v_gains v_undos v_digits k_x k_y k_z k_upBits k_steps k_first k_second b_jobs b_over b_clocks b_held b_kinds b_operands b_ties b_states b_gone b_toldIn b_broughtIn b_doneIn c_jobs c_over c_clocks c_held c_kinds c_operands c_ties c_states c_gone c_toldIn c_broughtIn c_doneIn d_jobs d_over d_clocks d_held d_kinds d_operands d_ties d_states d_gone d_toldIn d_broughtIn d_doneIn z_refusals) H → va_S A s.heap H locs → lv_has ls 6 [(0, .ref (q 0)), (1, .int x1), (2, .int x2), (3, .int x3), (4, .int x4), (5, .int x5)] → W p l e rm_X10_takeLines s m args below meth c H locs 0 0 Q (F0 m 77 ls []) := by
    intro k10 hk10 n
    induction n with
    | zero =>
      intro x1 x2 x3 x4 x5 b_jobs b_kinds b_operands b_ties b_states b_gone b_toldIn b_broughtIn b_doneIn H locs ls h
      exact nz_of h
    | succ n ih =>
      intro x1 x2 x3 x4 x5 b_jobs b_kinds b_operands b_ties b_states b_gone b_toldIn b_broughtIn b_doneIn H locs ls h hP hS hl
      rw [f_X10_takeLines_l77] at h
      refine lv_iload hx hb dX10_takeLines_77 (lv_at hl 5 rfl) ?_
      refine lv_iconst (v := 3) hx hb dX10_takeLines_79 rfl ?_
      refine lv_icmp_ge (tgt := 132) hx hb dX10_takeLines_80 rfl (fun c80 => ?_) (fun c80 => ?_)
      · have h := br_p c80 h
        obtain ⟨v3, ev3⟩ : ∃ z : Int32, z = (x2 + 1) := ⟨_, rfl⟩
        have h := lt_at ev3 h
        refine lv_iinc (v := v3) (lv' := [(2, .int v3), (0, .ref (q 0)), (1, .int x1), (3, .int x3), (4, .int x4), (5, .int x5)]) hx hb dX10_takeLines_132 hl (k := 2) rfl (by rw [ev3]; rfl) (by decide) rfl (fun ls hl => ?_)
        refine lv_goto (tgt := 10) hx hb dX10_takeLines_135 rfl ?_
        exact hk10 x1 v3 b_jobs b_kinds b_operands b_ties b_states b_gone b_toldIn b_broughtIn b_doneIn _ _ _ h hP hS (lv_sub hl [1, 2, 0] rfl)
      · have h := br_n c80 h
        refine lv_aload_n hx hb dX10_takeLines_83 rfl (lv_at hl 0 rfl) ?_
        refine gf_X10_30_X_0 X hP dX10_takeLines_84 ?_
        refine gf_X10_363_X_5 X hP dX10_takeLines_87 ?_
        refine lv_iload_n hx hb dX10_takeLines_90 rfl (lv_at hl 3 rfl) ?_
        refine lv_iload hx hb dX10_takeLines_91 (lv_at hl 5 rfl) ?_
        refine lv_iadd hx hb dX10_takeLines_93 ?_
        obtain ⟨hi94, h⟩ := gv_of h
        refine al_X_9 X hP hi94 dX10_takeLines_94 ?_
        refine lv_iconst (v := (-1)) hx hb dX10_takeLines_95 rfl ?_
        refine lv_icmp_eq (tgt := 126) hx hb dX10_takeLines_96 rfl (fun c96 => ?_) (fun c96 => ?_)
        · have h := br_p c96 h
          exact b126 k10 hk10 (f_X10_takeLines_l77  o_lines o_kinds o_operands o_ties b_clocks k10 n) ih  x1 x2 x3 x4 x5 b_jobs b_kinds b_operands b_ties b_states b_gone b_toldIn b_broughtIn b_doneIn _ _ _ h hP hS (lv_sub hl [0, 1, 2, 3, 4, 5] rfl)
        · have h := br_n c96 h
          refine lv_aload_n hx hb dX10_takeLines_99 rfl (lv_at hl 0 rfl) ?_
          refine gf_X10_60_X_0 X hP dX10_takeLines_100 ?_
          refine lv_iload hx hb dX10_takeLines_103 (lv_at hl 4 rfl) ?_
          refine lv_iload hx hb dX10_takeLines_105 (lv_at hl 5 rfl) ?_
          refine lv_iconst (v := 2) hx hb dX10_takeLines_107 rfl ?_
          refine lv_iload_n hx hb dX10_takeLines_108 rfl (lv_at hl 1 rfl) ?_
          refine lv_imul hx hb dX10_takeLines_109 ?_
          refine lv_aload_n hx hb dX10_takeLines_110 rfl (lv_at hl 0 rfl) ?_
          refine gf_X10_30_X_0 X hP dX10_takeLines_111 ?_
          refine gf_X10_363_X_5 X hP dX10_takeLines_114 ?_
          refine lv_iload_n hx hb dX10_takeLines_117 rfl (lv_at hl 3 rfl) ?_
          refine lv_iload hx hb dX10_takeLines_118 (lv_at hl 5 rfl) ?_
          refine lv_iadd hx hb dX10_takeLines_120 ?_
          obtain ⟨hi121, h⟩ := gv_of h
          refine al_X_9 X hP hi121 dX10_takeLines_121 ?_
          refine lv_iadd hx hb dX10_takeLines_122 ?_
          obtain ⟨o5, hco5, h⟩ := bd_of h
          obtain ⟨hF, hFA⟩ := fo_X_Book_24 hP
          refine kVN (rest := []) X dX10_takeLines_123 wd_4_56 mw_X1_tie wd_4_58 wp_5_2 hF (k0 := 0) rfl rfl rfl hS hFA (c_X1_tie hco5) rfl hl.1 rfl (Nat.le_of_ble_eq_true rfl) rfl rfl ⟨Nat.le_of_ble_eq_true rfl, Nat.le_of_ble_eq_true rfl⟩ (fun H locs hF1 _ hk hS => ?_)
          have hP := un_X_Book_24 hP hk hF1
          refine W.eq (g2 := F0 m 126 ls []) rfl ?_
          exact b126 k10 hk10 (f_X10_takeLines_l77  o_lines o_kinds o_operands o_ties b_clocks k10 n) ih  x1 x2 x3 x4 x5 b_jobs b_kinds o5.1 o5.2 b_states b_gone b_toldIn b_broughtIn b_doneIn _ _ _ h hP hS (lv_sub hl [0, 1, 2, 3, 4, 5] rfl)
  have l10 : ∀ (n : Nat), ∀ (x1 : Int32) (x2 : Int32) (b_jobs : Int32) (b_kinds : Nat → Int32) (b_operands : Nat → Int32) (b_ties : Nat → Int32) (b_states : Nat → Int32) (b_gone : Nat → Int32) (b_toldIn : Nat → Int32) (b_broughtIn : Nat → Int32) (b_doneIn : Nat → Int32) (H : Heap) (locs : List Loc) (ls : Array Slot), f_X10_takeLines_l10  o_lines o_kinds o_operands o_ties b_clocks  n x1 x2 b_jobs b_kinds b_operands b_ties b_states b_gone b_toldIn b_broughtIn b_doneIn = some o → WP g A (wX g q z_hasUnit z_hasImage t_length t_bytes x_width x_guard x_stages x_fold x_pipe x_near s_at o_lines n_at o_kinds o_operands o_ties u_width u_guard u_bits u_stages u_places u_near u_quarter u_eighth u_ln u_shifts u_angles u_gains u_undos u_digits r_x r_y r_z r_upBits r_steps r_first r_second v_width v_guard v_bits v_stages v_places v_near v_quarter v_eighth v_ln v_shifts v_angles v_gains v_undos v_digits k_x k_y k_z k_upBits k_steps k_first k_second b_jobs b_over b_clocks b_held b_kinds b_operands b_ties b_states b_gone b_toldIn b_broughtIn b_doneIn c_jobs c_over c_clocks c_held c_kinds c_operands c_ties c_states c_gone c_toldIn c_broughtIn c_doneIn d_jobs d_over d_clocks d_held d_kinds d_operands d_ties d_states d_gone d_toldIn d_broughtIn d_doneIn z_refusals) H → va_S A s.heap H locs → lv_has ls 6 [(0, .ref (q 0)), (1, .int x1), (2, .int x2)] → W p l e rm_X10_takeLines s m args below meth c H locs 0 0 Q (F0 m 10 ls []) := by
    intro  n
    induction n with
    | zero =>
      intro x1 x2 b_jobs b_kinds b_operands b_ties b_states b_gone b_toldIn b_broughtIn b_doneIn H locs ls h
      exact nz_of h
    | succ n ih =>
      intro x1 x2 b_jobs b_kinds b_operands b_ties b_states b_gone b_toldIn b_broughtIn b_doneIn H locs ls h hP hS hl
      rw [f_X10_takeLines_l10] at h
      refine lv_iload_n hx hb dX10_takeLines_10 rfl (lv_at hl 2 rfl) ?_
      refine lv_aload_n hx hb dX10_takeLines_11 rfl (lv_at hl 0 rfl) ?_
      refine gf_X10_30_X_0 X hP dX10_takeLines_12 ?_
      refine gf_X10_221_X_5 X hP dX10_takeLines_15 ?_
      refine lv_icmp_ge (tgt := 138) hx hb dX10_takeLines_18 rfl (fun c18 => ?_) (fun c18 => ?_)
      · have h := br_p c18 h
        exact ret h hP hS dX10_takeLines_138
      · have h := br_n c18 h
        refine lv_iload_n hx hb dX10_takeLines_21 rfl (lv_at hl 2 rfl) ?_
        refine lv_iconst (v := 3) hx hb dX10_takeLines_22 rfl ?_
        refine lv_imul hx hb dX10_takeLines_23 ?_
        refine lv_topi (fun v1 ev1 => ?_)
        have h := lt_at ev1 h
        refine lv_istore_n (lv' := [(3, .int v1), (0, .ref (q 0)), (1, .int x1), (2, .int x2)]) hx hb dX10_takeLines_24 rfl hl (by decide) rfl (fun ls hl => ?_)
        refine lv_aload_n hx hb dX10_takeLines_25 rfl (lv_at hl 1 rfl) ?_
        refine gf_X10_60_X_0 X hP dX10_takeLines_26 ?_
        refine lv_aload_n hx hb dX10_takeLines_29 rfl (lv_at hl 1 rfl) ?_
        refine gf_X10_30_X_0 X hP dX10_takeLines_30 ?_
        refine gf_X10_361_X_5 X hP dX10_takeLines_33 ?_
        refine lv_iload_n hx hb dX10_takeLines_36 rfl (lv_at hl 3 rfl) ?_
        obtain ⟨hi37, h⟩ := gv_of h
        refine al_X_7 X hP hi37 dX10_takeLines_37 ?_
        refine lv_aload_n hx hb dX10_takeLines_38 rfl (lv_at hl 1 rfl) ?_
        refine gf_X10_30_X_0 X hP dX10_takeLines_39 ?_
        refine gf_X10_362_X_5 X hP dX10_takeLines_42 ?_
        refine lv_iload_n hx hb dX10_takeLines_45 rfl (lv_at hl 0 rfl) ?_
        obtain ⟨hi46, h⟩ := gv_of h
        refine al_X_8 X hP hi46 dX10_takeLines_46 ?_
        refine lv_aload_n hx hb dX10_takeLines_47 rfl (lv_at hl 1 rfl) ?_
        refine gf_X10_30_X_0 X hP dX10_takeLines_48 ?_
        refine gf_X10_362_X_5 X hP dX10_takeLines_51 ?_
        refine lv_iload_n hx hb dX10_takeLines_54 rfl (lv_at hl 0 rfl) ?_
        refine lv_iconst (v := 1) hx hb dX10_takeLines_55 rfl ?_
        refine lv_iadd hx hb dX10_takeLines_56 ?_
        obtain ⟨hi57, h⟩ := gv_of h
        refine al_X_8 X hP hi57 dX10_takeLines_57 ?_
        refine lv_aload_n hx hb dX10_takeLines_58 rfl (lv_at hl 1 rfl) ?_
        refine gf_X10_30_X_0 X hP dX10_takeLines_59 ?_
        refine gf_X10_362_X_5 X hP dX10_takeLines_62 ?_
        refine lv_iload_n hx hb dX10_takeLines_65 rfl (lv_at hl 0 rfl) ?_
        refine lv_iconst (v := 2) hx hb dX10_takeLines_66 rfl ?_
        refine lv_iadd hx hb dX10_takeLines_67 ?_
        obtain ⟨hi68, h⟩ := gv_of h
        refine al_X_8 X hP hi68 dX10_takeLines_68 ?_
        obtain ⟨o2, hco2, h⟩ := bd_of h
        obtain ⟨hF, hFA⟩ := fo_X_Book_24 hP
        refine kVN (rest := []) X dX10_takeLines_69 wd_4_36 mw_X1_add wd_4_38 wp_4_14 hF (k0 := 0) rfl rfl rfl hS hFA (c_X1_add hco2) rfl hl.1 rfl (Nat.le_of_ble_eq_true rfl) rfl rfl ⟨Nat.le_of_ble_eq_true rfl, Nat.le_of_ble_eq_true rfl⟩ (fun H locs hF1 _ hk hS => ?_)
        have hP := un_X_Book_24 hP hk hF1
        refine W.eq (g2 := F0 m 72 ls [.int o2.1]) rfl ?_
        refine lv_istore (lv' := [(4, .int o2.1), (3, .int v1), (0, .ref (q 0)), (1, .int x1), (2, .int x2)]) hx hb dX10_takeLines_72 hl (by decide) rfl (fun ls hl => ?_)
        refine lv_iconst (v := 0) hx hb dX10_takeLines_74 rfl ?_
        refine lv_istore (lv' := [(5, .int 0), (4, .int o2.1), (3, .int v1), (0, .ref (q 0)), (1, .int x1), (2, .int x2)]) hx hb dX10_takeLines_75 hl (by decide) rfl (fun ls hl => ?_)
        exact l77 (f_X10_takeLines_l10  o_lines o_kinds o_operands o_ties b_clocks  n) ih FU x1 x2 v1 o2.1 (0 : Int32) o2.2.1 o2.2.2.1 o2.2.2.2.1 o2.2.2.2.2.1 o2.2.2.2.2.2.1 o2.2.2.2.2.2.2.1 o2.2.2.2.2.2.2.2.1 o2.2.2.2.2.2.2.2.2.1 o2.2.2.2.2.2.2.2.2.2 _ _ _ h hP hS (lv_sub hl [3, 4, 5, 2, 1, 0] rfl)
  unfold f_X10_takeLines at h
  refine lv_aload_n hx hb dX10_takeLines_0 rfl (lv_at hl 0 rfl) ?_
  refine gf_X10_60_X_0 X hP dX10_takeLines_1 ?_
  refine gf_X10_128_X_24 X hP dX10_takeLines_4 ?_
  refine lv_istore_n (lv' := [(1, .int b_jobs), (0, .ref (q 0))]) hx hb dX10_takeLines_7 rfl hl (by decide) rfl (fun ls hl => ?_)
  refine lv_iconst (v := 0) hx hb dX10_takeLines_8 rfl ?_
  refine lv_istore_n (lv' := [(2, .int 0), (1, .int b_jobs), (0, .ref (q 0))]) hx hb dX10_takeLines_9 rfl hl (by decide) rfl (fun ls hl => ?_)
  exact l10  FU b_jobs (0 : Int32) b_jobs b_kinds b_operands b_ties b_states b_gone b_toldIn b_broughtIn b_doneIn _ _ _ h hP hS (lv_sub hl [2, 1, 0] rfl)
abbrev rm_X10_orders : Room := { frames := 7, cells := 0, slots := 0, locals := 159 }
set_option maxRecDepth 100000 in
set_option maxHeartbeats 4000000 in
theorem c_X10_orders {g : gT} {l : Launch} {A : Nat → Prop} {q : Nat → Nat} {z_hasUnit : Bool} {z_hasImage : Bool} {t_length : Int32} {t_bytes : Nat → Int32} {x_width : Int32} {x_guard : Int32} {x_stages : Int32} {x_fold : Int32} {x_pipe : Bool} {x_near : Bool} {s_at : Int32} {o_lines : Int32} {n_at : Int32} {o_kinds : Nat → Int32} {o_operands : Nat → Int32} {o_ties : Nat → Int32} {u_width : Int32} {u_guard : Int32} {u_bits : Int32} {u_stages : Int32} {u_places : Int32} {u_near : Bool} {u_quarter : Int64} {u_eighth : Int64} {u_ln : Int64} {u_shifts : Nat → Int32} {u_angles : Nat → Int64} {u_gains : Nat → Int64} {u_undos : Nat → Int64} {u_digits : Nat → Int32} {r_x : Int64} {r_y : Int64} {r_z : Int64} {r_upBits : Int32} {r_steps : Int32} {r_first : Int64} {r_second : Int64} {v_width : Int32} {v_guard : Int32} {v_bits : Int32} {v_stages : Int32} {v_places : Int32} {v_near : Bool} {v_quarter : Int64} {v_eighth : Int64} {v_ln : Int64} {v_shifts : Nat → Int32} {v_angles : Nat → Int64} {v_gains : Nat → Int64} {v_undos : Nat → Int64} {v_digits : Nat → Int32} {k_x : Int64} {k_y : Int64} {k_z : Int64} {k_upBits : Int32} {k_steps : Int32} {k_first : Int64} {k_second : Int64} {b_jobs : Int32} {b_over : Int32} {b_clocks : Int32} {b_held : Bool} {b_kinds : Nat → Int32} {b_operands : Nat → Int32} {b_ties : Nat → Int32} {b_states : Nat → Int32} {b_gone : Nat → Int32} {b_toldIn : Nat → Int32} {b_broughtIn : Nat → Int32} {b_doneIn : Nat → Int32} {c_jobs : Int32} {c_over : Int32} {c_clocks : Int32} {c_held : Bool} {c_kinds : Nat → Int32} {c_operands : Nat → Int32} {c_ties : Nat → Int32} {c_states : Nat → Int32} {c_gone : Nat → Int32} {c_toldIn : Nat → Int32} {c_broughtIn : Nat → Int32} {c_doneIn : Nat → Int32} {d_jobs : Int32} {d_over : Int32} {d_clocks : Int32} {d_held : Bool} {d_kinds : Nat → Int32} {d_operands : Nat → Int32} {d_ties : Nat → Int32} {d_states : Nat → Int32} {d_gone : Nat → Int32} {d_toldIn : Nat → Int32} {d_broughtIn : Nat → Int32} {d_doneIn : Nat → Int32} {z_refusals : Nat → Int32}  {o : Int32 × Int32 × Int32 × Int32 × (Nat → Int32) × (Nat → Int32) × (Nat → Int32) × Int32 × (Nat → Int32) × (Nat → Int32) × (Nat → Int32) × (Nat → Int32) × (Nat → Int32) × (Nat → Int32) × (Nat → Int32) × (Nat → Int32) × (Nat → Int32)} (h : f_X10_orders  z_hasUnit t_length t_bytes o_lines n_at o_kinds o_operands o_ties u_width b_jobs b_clocks b_kinds b_operands b_ties b_states b_gone b_toldIn b_broughtIn b_doneIn z_refusals = some o) : Std g l yX10_orders (.code yX10_orders cX10_orders 1 (some .int) :: gw) rm_X10_orders A [.ref (q 0)] (wX g q z_hasUnit z_hasImage t_length t_bytes x_width x_guard x_stages x_fold x_pipe x_near s_at o_lines n_at o_kinds o_operands o_ties u_width u_guard u_bits u_stages u_places u_near u_quarter u_eighth u_ln u_shifts u_angles u_gains u_undos u_digits r_x r_y r_z r_upBits r_steps r_first r_second v_width v_guard v_bits v_stages v_places v_near v_quarter v_eighth v_ln v_shifts v_angles v_gains v_undos v_digits k_x k_y k_z k_upBits k_steps k_first k_second b_jobs b_over b_clocks b_held b_kinds b_operands b_ties b_states b_gone b_toldIn b_broughtIn b_doneIn c_jobs c_over c_clocks c_held c_kinds c_operands c_ties c_states c_gone c_toldIn c_broughtIn c_doneIn d_jobs d_over d_clocks d_held d_kinds d_operands d_ties d_states d_gone d_toldIn d_broughtIn d_doneIn z_refusals) (wX g q z_hasUnit z_hasImage o.2.1 t_bytes x_width x_guard x_stages x_fold x_pipe x_near s_at o.2.2.1 o.2.2.2.1 o.2.2.2.2.1 o.2.2.2.2.2.1 o.2.2.2.2.2.2.1 u_width u_guard u_bits u_stages u_places u_near u_quarter u_eighth u_ln u_shifts u_angles u_gains u_undos u_digits r_x r_y r_z r_upBits r_steps r_first r_second v_width v_guard v_bits v_stages v_places v_near v_quarter v_eighth v_ln v_shifts v_angles v_gains v_undos v_digits k_x k_y k_z k_upBits k_steps k_first k_second o.2.2.2.2.2.2.2.1 b_over b_clocks b_held o.2.2.2.2.2.2.2.2.1 o.2.2.2.2.2.2.2.2.2.1 o.2.2.2.2.2.2.2.2.2.2.1 o.2.2.2.2.2.2.2.2.2.2.2.1 o.2.2.2.2.2.2.2.2.2.2.2.2.1 o.2.2.2.2.2.2.2.2.2.2.2.2.2.1 o.2.2.2.2.2.2.2.2.2.2.2.2.2.2.1 o.2.2.2.2.2.2.2.2.2.2.2.2.2.2.2.1 c_jobs c_over c_clocks c_held c_kinds c_operands c_ties c_states c_gone c_toldIn c_broughtIn c_doneIn d_jobs d_over d_clocks d_held d_kinds d_operands d_ties d_states d_gone d_toldIn d_broughtIn d_doneIn o.2.2.2.2.2.2.2.2.2.2.2.2.2.2.2.2) (some (.int o.1)) := by
  refine std_i (own := RX10) (by decide +kernel) rfl (Nat.le_of_ble_eq_true rfl) ?_
  intro p e s m args below meth c Q X ret H locs hP hS ls hl
  have hx := X.1
  have hb := X.2.1
  have hl : lv_has ls 1 [(0, .ref (q 0))] := hl
  have ret : ∀ {H : Heap} {locs : List Loc} {pc : Nat} {ls : Array Slot} {v : Int32} {t_length : Int32} {o_lines : Int32} {n_at : Int32} {o_kinds : Nat → Int32} {o_operands : Nat → Int32} {o_ties : Nat → Int32} {b_jobs : Int32} {b_kinds : Nat → Int32} {b_operands : Nat → Int32} {b_ties : Nat → Int32} {b_states : Nat → Int32} {b_gone : Nat → Int32} {b_toldIn : Nat → Int32} {b_broughtIn : Nat → Int32} {b_doneIn : Nat → Int32} {z_refusals : Nat → Int32}, some (v, t_length, o_lines, n_at, o_kinds, o_operands, o_ties, b_jobs, b_kinds, b_operands, b_ties, b_states, b_gone, b_toldIn, b_broughtIn, b_doneIn, z_refusals) = some o → WP g A (wX g q z_hasUnit z_hasImage t_length t_bytes x_width x_guard x_stages x_fold x_pipe x_near s_at o_lines n_at o_kinds o_operands o_ties u_width u_guard u_bits u_stages u_places u_near u_quarter u_eighth u_ln u_shifts u_angles u_gains u_undos u_digits r_x r_y r_z r_upBits r_steps r_first r_second v_width v_guard v_bits v_stages v_places v_near v_quarter v_eighth v_ln v_shifts v_angles v_gains v_undos v_digits k_x k_y k_z k_upBits k_steps k_first k_second b_jobs b_over b_clocks b_held b_kinds b_operands b_ties b_states b_gone b_toldIn b_broughtIn b_doneIn c_jobs c_over c_clocks c_held c_kinds c_operands c_ties c_states c_gone c_toldIn c_broughtIn c_doneIn d_jobs d_over d_clocks d_held d_kinds d_operands d_ties d_states d_gone d_toldIn d_broughtIn d_doneIn z_refusals) H → va_S A s.heap H locs → decode cX10_orders pc = .ok (.ireturn, 1) → W p l e rm_X10_orders s m args below meth c H locs 0 0 Q (F0 m pc ls [.int v]) := by
    intro H locs pc ls v t_length o_lines n_at o_kinds o_operands o_ties b_jobs b_kinds b_operands b_ties b_states b_gone b_toldIn b_broughtIn b_doneIn z_refusals h hP hS hd
    cases h
    exact ret hP hS hd
  have b31 : ∀ (t_length : Int32) (o_lines : Int32) (n_at : Int32) (o_kinds : Nat → Int32) (o_operands : Nat → Int32) (o_ties : Nat → Int32) (b_jobs : Int32) (b_kinds : Nat → Int32) (b_operands : Nat → Int32) (b_ties : Nat → Int32) (b_states : Nat → Int32) (b_gone : Nat → Int32) (b_toldIn : Nat → Int32) (b_broughtIn : Nat → Int32) (b_doneIn : Nat → Int32) (z_refusals : Nat → Int32) (H : Heap) (locs : List Loc) (ls : Array Slot), f_X10_orders_b31  z_hasUnit t_bytes u_width b_clocks  t_length o_lines n_at o_kinds o_operands o_ties b_jobs b_kinds b_operands b_ties b_states b_gone b_toldIn b_broughtIn b_doneIn z_refusals = some o → WP g A (wX g q z_hasUnit z_hasImage t_length t_bytes x_width x_guard x_stages x_fold x_pipe x_near s_at o_lines n_at o_kinds o_operands o_ties u_width u_guard u_bits u_stages u_places u_near u_quarter u_eighth u_ln u_shifts u_angles u_gains u_undos u_digits r_x r_y r_z r_upBits r_steps r_first r_second v_width v_guard v_bits v_stages v_places v_near v_quarter v_eighth v_ln v_shifts v_angles v_gains v_undos v_digits k_x k_y k_z k_upBits k_steps k_first k_second b_jobs b_over b_clocks b_held b_kinds b_operands b_ties b_states b_gone b_toldIn b_broughtIn b_doneIn c_jobs c_over c_clocks c_held c_kinds c_operands c_ties c_states c_gone c_toldIn c_broughtIn c_doneIn d_jobs d_over d_clocks d_held d_kinds d_operands d_ties d_states d_gone d_toldIn d_broughtIn d_doneIn z_refusals) H → va_S A s.heap H locs → lv_has ls 1 [(0, .ref (q 0))] → W p l e rm_X10_orders s m args below meth c H locs 0 0 Q (F0 m 31 ls []) := by
    intro  t_length o_lines n_at o_kinds o_operands o_ties b_jobs b_kinds b_operands b_ties b_states b_gone b_toldIn b_broughtIn b_doneIn z_refusals H locs ls h hP hS hl
    unfold f_X10_orders_b31 at h
    refine lv_aload_n hx hb dX10_orders_31 rfl (lv_at hl 0 rfl) ?_
    refine lv_iconst (v := 1) hx hb dX10_orders_32 rfl ?_
    obtain ⟨o2, hco2, h⟩ := bd_of h
    refine kV (rest := []) X dX10_orders_33 wd_4_31 mw_X10_refuse wd_4_33 wp_4_13 hP (k0 := 0) rfl rfl rfl hS (fun _ z => z) (c_X10_refuse hco2) rfl hl.1 rfl (Nat.le_of_ble_eq_true rfl) rfl rfl ⟨Nat.le_of_ble_eq_true rfl, Nat.le_of_ble_eq_true rfl⟩ (fun H locs hP _ _ hS => ?_)
    refine W.eq (g2 := F0 m 36 ls [.int o2.1]) rfl ?_
    exact ret h hP hS dX10_orders_36
  unfold f_X10_orders at h
  refine lv_aload_n hx hb dX10_orders_0 rfl (lv_at hl 0 rfl) ?_
  refine gf_X10_110_X_0 X hP dX10_orders_1 ?_
  refine rb_ne (tgt := 13) hx hb dX10_orders_4 rfl (fun c4 => ?_) (fun c4 => ?_)
  · have h := br_p c4 h
    refine lv_aload_n hx hb dX10_orders_13 rfl (lv_at hl 0 rfl) ?_
    refine gf_X10_30_X_0 X hP dX10_orders_14 ?_
    obtain ⟨o1, hco1, h⟩ := bd_of h
    obtain ⟨hF, hFA⟩ := fo_X_OText_5 hP
    refine kVN (rest := []) X dX10_orders_17 wd_3_29 mw_X3_read wd_3_31 wp_2_7 hF (k0 := 0) rfl rfl rfl hS hFA (c_X3_read hco1) rfl hl.1 rfl (Nat.le_of_ble_eq_true rfl) rfl rfl ⟨Nat.le_of_ble_eq_true rfl, Nat.le_of_ble_eq_true rfl⟩ (fun H locs hF1 _ hk hS => ?_)
    have hP := un_X_OText_5 hP hk hF1
    refine W.eq (g2 := F0 m 20 ls [.int o1.1]) rfl ?_
    refine lv_iconst (v := (-1)) hx hb dX10_orders_20 rfl ?_
    refine lv_icmp_ne (tgt := 31) hx hb dX10_orders_21 rfl (fun c21 => ?_) (fun c21 => ?_)
    · have h := br_n c21 h
      exact b31   t_length o1.2.1 o1.2.2.1 o1.2.2.2.1 o1.2.2.2.2.1 o1.2.2.2.2.2 b_jobs b_kinds b_operands b_ties b_states b_gone b_toldIn b_broughtIn b_doneIn z_refusals _ _ _ h hP hS (lv_sub hl [0] rfl)
    · have h := br_p c21 h
      refine lv_aload_n hx hb dX10_orders_24 rfl (lv_at hl 0 rfl) ?_
      obtain ⟨o3, hco3, h⟩ := bd_of h
      refine kV (rest := []) X dX10_orders_25 wd_4_44 mw_X10_linesFit wd_4_46 wp_4_15 hP (k0 := 0) rfl rfl rfl hS (fun _ z => z) (c_X10_linesFit hco3) rfl hl.1 rfl (Nat.le_of_ble_eq_true rfl) rfl rfl ⟨Nat.le_of_ble_eq_true rfl, Nat.le_of_ble_eq_true rfl⟩ (fun H locs hP _ _ hS => ?_)
      refine W.eq (g2 := F0 m 28 ls [.int (bI o3)]) rfl ?_
      refine rb_ne (tgt := 37) hx hb dX10_orders_28 rfl (fun c28 => ?_) (fun c28 => ?_)
      · have h := br_p c28 h
        refine lv_aload_n hx hb dX10_orders_37 rfl (lv_at hl 0 rfl) ?_
        refine gf_X10_60_X_0 X hP dX10_orders_38 ?_
        refine gf_X10_128_X_24 X hP dX10_orders_41 ?_
        refine lv_aload_n hx hb dX10_orders_44 rfl (lv_at hl 0 rfl) ?_
        refine gf_X10_30_X_0 X hP dX10_orders_45 ?_
        refine gf_X10_221_X_5 X hP dX10_orders_48 ?_
        refine lv_iadd hx hb dX10_orders_51 ?_
        refine lv_bipush (v := 60) hx hb dX10_orders_52 rfl ?_
        refine lv_icmp_le (tgt := 63) hx hb dX10_orders_54 rfl (fun c54 => ?_) (fun c54 => ?_)
        · have h := br_p c54 h
          refine lv_aload_n hx hb dX10_orders_63 rfl (lv_at hl 0 rfl) ?_
          obtain ⟨o4, hco4, h⟩ := bd_of h
          refine kV (rest := []) X dX10_orders_64 wd_4_52 mw_X10_takeLines wd_4_54 wp_5_1 hP (k0 := 0) rfl rfl rfl hS (fun _ z => z) (c_X10_takeLines hco4) rfl hl.1 rfl (Nat.le_of_ble_eq_true rfl) rfl rfl ⟨Nat.le_of_ble_eq_true rfl, Nat.le_of_ble_eq_true rfl⟩ (fun H locs hP _ _ hS => ?_)
          refine W.eq (g2 := F0 m 67 ls []) rfl ?_
          refine lv_aload_n hx hb dX10_orders_67 rfl (lv_at hl 0 rfl) ?_
          refine gf_X10_12_X_0 X hP dX10_orders_68 ?_
          refine lv_iconst (v := 0) hx hb dX10_orders_71 rfl ?_
          refine pf_X10_78_X_1 (v0 := (0 : Int32)) X hP hS dX10_orders_72 (fun H locs hP hS => ?_)
          refine lv_aload_n hx hb dX10_orders_75 rfl (lv_at hl 0 rfl) ?_
          refine gf_X10_30_X_0 X hP dX10_orders_76 ?_
          refine gf_X10_221_X_5 X hP dX10_orders_79 ?_
          exact ret h hP hS dX10_orders_82
        · have h := br_n c54 h
          refine lv_aload_n hx hb dX10_orders_57 rfl (lv_at hl 0 rfl) ?_
          refine lv_iconst (v := 2) hx hb dX10_orders_58 rfl ?_
          obtain ⟨o5, hco5, h⟩ := bd_of h
          refine kV (rest := []) X dX10_orders_59 wd_4_31 mw_X10_refuse wd_4_33 wp_4_13 hP (k0 := 0) rfl rfl rfl hS (fun _ z => z) (c_X10_refuse hco5) rfl hl.1 rfl (Nat.le_of_ble_eq_true rfl) rfl rfl ⟨Nat.le_of_ble_eq_true rfl, Nat.le_of_ble_eq_true rfl⟩ (fun H locs hP _ _ hS => ?_)
          refine W.eq (g2 := F0 m 62 ls [.int o5.1]) rfl ?_
          exact ret h hP hS dX10_orders_62
      · have h := br_n c28 h
        exact b31   t_length o1.2.1 o1.2.2.1 o1.2.2.2.1 o1.2.2.2.2.1 o1.2.2.2.2.2 b_jobs b_kinds b_operands b_ties b_states b_gone b_toldIn b_broughtIn b_doneIn z_refusals _ _ _ h hP hS (lv_sub hl [0] rfl)
  · have h := br_n c4 h
    refine lv_aload_n hx hb dX10_orders_7 rfl (lv_at hl 0 rfl) ?_
    refine lv_iconst (v := 0) hx hb dX10_orders_8 rfl ?_
    obtain ⟨o6, hco6, h⟩ := bd_of h
    refine kV (rest := []) X dX10_orders_9 wd_4_31 mw_X10_refuse wd_4_33 wp_4_13 hP (k0 := 0) rfl rfl rfl hS (fun _ z => z) (c_X10_refuse hco6) rfl hl.1 rfl (Nat.le_of_ble_eq_true rfl) rfl rfl ⟨Nat.le_of_ble_eq_true rfl, Nat.le_of_ble_eq_true rfl⟩ (fun H locs hP _ _ hS => ?_)
    refine W.eq (g2 := F0 m 12 ls [.int o6.1]) rfl ?_
    exact ret h hP hS dX10_orders_12
abbrev rm_X10_isJob : Room := { frames := 0, cells := 0, slots := 0, locals := 0 }
set_option maxRecDepth 100000 in
set_option maxHeartbeats 4000000 in
theorem c_X10_isJob {g : gT} {l : Launch} {A : Nat → Prop} {q : Nat → Nat} {z_hasUnit : Bool} {z_hasImage : Bool} {t_length : Int32} {t_bytes : Nat → Int32} {x_width : Int32} {x_guard : Int32} {x_stages : Int32} {x_fold : Int32} {x_pipe : Bool} {x_near : Bool} {s_at : Int32} {o_lines : Int32} {n_at : Int32} {o_kinds : Nat → Int32} {o_operands : Nat → Int32} {o_ties : Nat → Int32} {u_width : Int32} {u_guard : Int32} {u_bits : Int32} {u_stages : Int32} {u_places : Int32} {u_near : Bool} {u_quarter : Int64} {u_eighth : Int64} {u_ln : Int64} {u_shifts : Nat → Int32} {u_angles : Nat → Int64} {u_gains : Nat → Int64} {u_undos : Nat → Int64} {u_digits : Nat → Int32} {r_x : Int64} {r_y : Int64} {r_z : Int64} {r_upBits : Int32} {r_steps : Int32} {r_first : Int64} {r_second : Int64} {v_width : Int32} {v_guard : Int32} {v_bits : Int32} {v_stages : Int32} {v_places : Int32} {v_near : Bool} {v_quarter : Int64} {v_eighth : Int64} {v_ln : Int64} {v_shifts : Nat → Int32} {v_angles : Nat → Int64} {v_gains : Nat → Int64} {v_undos : Nat → Int64} {v_digits : Nat → Int32} {k_x : Int64} {k_y : Int64} {k_z : Int64} {k_upBits : Int32} {k_steps : Int32} {k_first : Int64} {k_second : Int64} {b_jobs : Int32} {b_over : Int32} {b_clocks : Int32} {b_held : Bool} {b_kinds : Nat → Int32} {b_operands : Nat → Int32} {b_ties : Nat → Int32} {b_states : Nat → Int32} {b_gone : Nat → Int32} {b_toldIn : Nat → Int32} {b_broughtIn : Nat → Int32} {b_doneIn : Nat → Int32} {c_jobs : Int32} {c_over : Int32} {c_clocks : Int32} {c_held : Bool} {c_kinds : Nat → Int32} {c_operands : Nat → Int32} {c_ties : Nat → Int32} {c_states : Nat → Int32} {c_gone : Nat → Int32} {c_toldIn : Nat → Int32} {c_broughtIn : Nat → Int32} {c_doneIn : Nat → Int32} {d_jobs : Int32} {d_over : Int32} {d_clocks : Int32} {d_held : Bool} {d_kinds : Nat → Int32} {d_operands : Nat → Int32} {d_ties : Nat → Int32} {d_states : Nat → Int32} {d_gone : Nat → Int32} {d_toldIn : Nat → Int32} {d_broughtIn : Nat → Int32} {d_doneIn : Nat → Int32} {z_refusals : Nat → Int32} {p0 : Int32} {o : Bool} (h : f_X10_isJob p0 z_hasUnit b_jobs = some o) : Std g l yX10_isJob (.code yX10_isJob cX10_isJob 2 (some .boolean) :: gw) rm_X10_isJob A [.ref (q 0), .int p0] (wX g q z_hasUnit z_hasImage t_length t_bytes x_width x_guard x_stages x_fold x_pipe x_near s_at o_lines n_at o_kinds o_operands o_ties u_width u_guard u_bits u_stages u_places u_near u_quarter u_eighth u_ln u_shifts u_angles u_gains u_undos u_digits r_x r_y r_z r_upBits r_steps r_first r_second v_width v_guard v_bits v_stages v_places v_near v_quarter v_eighth v_ln v_shifts v_angles v_gains v_undos v_digits k_x k_y k_z k_upBits k_steps k_first k_second b_jobs b_over b_clocks b_held b_kinds b_operands b_ties b_states b_gone b_toldIn b_broughtIn b_doneIn c_jobs c_over c_clocks c_held c_kinds c_operands c_ties c_states c_gone c_toldIn c_broughtIn c_doneIn d_jobs d_over d_clocks d_held d_kinds d_operands d_ties d_states d_gone d_toldIn d_broughtIn d_doneIn z_refusals) (wX g q z_hasUnit z_hasImage t_length t_bytes x_width x_guard x_stages x_fold x_pipe x_near s_at o_lines n_at o_kinds o_operands o_ties u_width u_guard u_bits u_stages u_places u_near u_quarter u_eighth u_ln u_shifts u_angles u_gains u_undos u_digits r_x r_y r_z r_upBits r_steps r_first r_second v_width v_guard v_bits v_stages v_places v_near v_quarter v_eighth v_ln v_shifts v_angles v_gains v_undos v_digits k_x k_y k_z k_upBits k_steps k_first k_second b_jobs b_over b_clocks b_held b_kinds b_operands b_ties b_states b_gone b_toldIn b_broughtIn b_doneIn c_jobs c_over c_clocks c_held c_kinds c_operands c_ties c_states c_gone c_toldIn c_broughtIn c_doneIn d_jobs d_over d_clocks d_held d_kinds d_operands d_ties d_states d_gone d_toldIn d_broughtIn d_doneIn z_refusals) (some (.int (bI o))) := by
  refine std_z (own := RX10) (by decide +kernel) rfl (Nat.le_of_ble_eq_true rfl) ?_
  intro p e s m args below meth c Q X ret H locs hP hS ls hl
  have hx := X.1
  have hb := X.2.1
  have hl : lv_has ls 2 [(0, .ref (q 0)), (1, .int p0)] := hl
  have ret : ∀ {H : Heap} {locs : List Loc} {pc : Nat} {ls : Array Slot} {v : Bool} , some (v) = some o → WP g A (wX g q z_hasUnit z_hasImage t_length t_bytes x_width x_guard x_stages x_fold x_pipe x_near s_at o_lines n_at o_kinds o_operands o_ties u_width u_guard u_bits u_stages u_places u_near u_quarter u_eighth u_ln u_shifts u_angles u_gains u_undos u_digits r_x r_y r_z r_upBits r_steps r_first r_second v_width v_guard v_bits v_stages v_places v_near v_quarter v_eighth v_ln v_shifts v_angles v_gains v_undos v_digits k_x k_y k_z k_upBits k_steps k_first k_second b_jobs b_over b_clocks b_held b_kinds b_operands b_ties b_states b_gone b_toldIn b_broughtIn b_doneIn c_jobs c_over c_clocks c_held c_kinds c_operands c_ties c_states c_gone c_toldIn c_broughtIn c_doneIn d_jobs d_over d_clocks d_held d_kinds d_operands d_ties d_states d_gone d_toldIn d_broughtIn d_doneIn z_refusals) H → va_S A s.heap H locs → decode cX10_isJob pc = .ok (.ireturn, 1) → W p l e rm_X10_isJob s m args below meth c H locs 0 0 Q (F0 m pc ls [.int (bI v)]) := by
    intro H locs pc ls v h hP hS hd
    cases h
    exact ret hP hS hd
  unfold f_X10_isJob at h
  refine lv_aload_n hx hb dX10_isJob_0 rfl (lv_at hl 0 rfl) ?_
  refine gf_X10_110_X_0 X hP dX10_isJob_1 ?_
  refine jx1 h (P := fun (v1 : Bool) => ∀ ls : Array Slot, lv_has ls 2 [] → W p l e rm_X10_isJob s m args below meth c H locs 0 0 Q (F0 m 27 ls [.int (bI v1)])) ?_ ?_
  · intro v1 h ls hl
    exact ret h hP hS dX10_isJob_27
  · intro J h
    refine rb_eq (tgt := 26) hx hb dX10_isJob_4 rfl (fun c4 => ?_) (fun c4 => ?_)
    · refine lv_iconst (v := 0) hx hb dX10_isJob_26 rfl ?_
      exact J _ (lt_in c4 h) ls (lv_sub hl [] rfl)
    · refine lv_iload_n hx hb dX10_isJob_7 rfl (lv_at hl 1 rfl) ?_
      refine lv_if_lt (tgt := 26) hx hb dX10_isJob_8 rfl (fun c8 => ?_) (fun c8 => ?_)
      · refine lv_iconst (v := 0) hx hb dX10_isJob_26 rfl ?_
        exact J _ (lt_ip c8 (lt_ip c4 h)) ls (lv_sub hl [] rfl)
      · refine lv_iload_n hx hb dX10_isJob_11 rfl (lv_at hl 1 rfl) ?_
        refine lv_aload_n hx hb dX10_isJob_12 rfl (lv_at hl 0 rfl) ?_
        refine gf_X10_60_X_0 X hP dX10_isJob_13 ?_
        refine gf_X10_128_X_24 X hP dX10_isJob_16 ?_
        refine lv_icmp_ge (tgt := 26) hx hb dX10_isJob_19 rfl (fun c19 => ?_) (fun c19 => ?_)
        · refine lv_iconst (v := 0) hx hb dX10_isJob_26 rfl ?_
          exact J _ (lt_ip c19 (lt_in c8 (lt_ip c4 h))) ls (lv_sub hl [] rfl)
        · refine lv_iconst (v := 1) hx hb dX10_isJob_22 rfl ?_
          refine lv_goto (tgt := 27) hx hb dX10_isJob_23 rfl ?_
          exact J _ (lt_in c19 (lt_in c8 (lt_ip c4 h))) ls (lv_sub hl [] rfl)
abbrev rm_X10_allow : Room := { frames := 0, cells := 0, slots := 0, locals := 0 }
set_option maxRecDepth 100000 in
set_option maxHeartbeats 4000000 in
theorem c_X10_allow {g : gT} {l : Launch} {A : Nat → Prop} {q : Nat → Nat} {z_hasUnit : Bool} {z_hasImage : Bool} {t_length : Int32} {t_bytes : Nat → Int32} {x_width : Int32} {x_guard : Int32} {x_stages : Int32} {x_fold : Int32} {x_pipe : Bool} {x_near : Bool} {s_at : Int32} {o_lines : Int32} {n_at : Int32} {o_kinds : Nat → Int32} {o_operands : Nat → Int32} {o_ties : Nat → Int32} {u_width : Int32} {u_guard : Int32} {u_bits : Int32} {u_stages : Int32} {u_places : Int32} {u_near : Bool} {u_quarter : Int64} {u_eighth : Int64} {u_ln : Int64} {u_shifts : Nat → Int32} {u_angles : Nat → Int64} {u_gains : Nat → Int64} {u_undos : Nat → Int64} {u_digits : Nat → Int32} {r_x : Int64} {r_y : Int64} {r_z : Int64} {r_upBits : Int32} {r_steps : Int32} {r_first : Int64} {r_second : Int64} {v_width : Int32} {v_guard : Int32} {v_bits : Int32} {v_stages : Int32} {v_places : Int32} {v_near : Bool} {v_quarter : Int64} {v_eighth : Int64} {v_ln : Int64} {v_shifts : Nat → Int32} {v_angles : Nat → Int64} {v_gains : Nat → Int64} {v_undos : Nat → Int64} {v_digits : Nat → Int32} {k_x : Int64} {k_y : Int64} {k_z : Int64} {k_upBits : Int32} {k_steps : Int32} {k_first : Int64} {k_second : Int64} {b_jobs : Int32} {b_over : Int32} {b_clocks : Int32} {b_held : Bool} {b_kinds : Nat → Int32} {b_operands : Nat → Int32} {b_ties : Nat → Int32} {b_states : Nat → Int32} {b_gone : Nat → Int32} {b_toldIn : Nat → Int32} {b_broughtIn : Nat → Int32} {b_doneIn : Nat → Int32} {c_jobs : Int32} {c_over : Int32} {c_clocks : Int32} {c_held : Bool} {c_kinds : Nat → Int32} {c_operands : Nat → Int32} {c_ties : Nat → Int32} {c_states : Nat → Int32} {c_gone : Nat → Int32} {c_toldIn : Nat → Int32} {c_broughtIn : Nat → Int32} {c_doneIn : Nat → Int32} {d_jobs : Int32} {d_over : Int32} {d_clocks : Int32} {d_held : Bool} {d_kinds : Nat → Int32} {d_operands : Nat → Int32} {d_ties : Nat → Int32} {d_states : Nat → Int32} {d_gone : Nat → Int32} {d_toldIn : Nat → Int32} {d_broughtIn : Nat → Int32} {d_doneIn : Nat → Int32} {z_refusals : Nat → Int32} {p0 : Int32} {o : Bool × (Nat → Int32)} (h : f_X10_allow p0 z_refusals = some o) : Std g l yX10_allow (.code yX10_allow cX10_allow 2 (some .boolean) :: gw) rm_X10_allow A [.ref (q 0), .int p0] (wX g q z_hasUnit z_hasImage t_length t_bytes x_width x_guard x_stages x_fold x_pipe x_near s_at o_lines n_at o_kinds o_operands o_ties u_width u_guard u_bits u_stages u_places u_near u_quarter u_eighth u_ln u_shifts u_angles u_gains u_undos u_digits r_x r_y r_z r_upBits r_steps r_first r_second v_width v_guard v_bits v_stages v_places v_near v_quarter v_eighth v_ln v_shifts v_angles v_gains v_undos v_digits k_x k_y k_z k_upBits k_steps k_first k_second b_jobs b_over b_clocks b_held b_kinds b_operands b_ties b_states b_gone b_toldIn b_broughtIn b_doneIn c_jobs c_over c_clocks c_held c_kinds c_operands c_ties c_states c_gone c_toldIn c_broughtIn c_doneIn d_jobs d_over d_clocks d_held d_kinds d_operands d_ties d_states d_gone d_toldIn d_broughtIn d_doneIn z_refusals) (wX g q z_hasUnit z_hasImage t_length t_bytes x_width x_guard x_stages x_fold x_pipe x_near s_at o_lines n_at o_kinds o_operands o_ties u_width u_guard u_bits u_stages u_places u_near u_quarter u_eighth u_ln u_shifts u_angles u_gains u_undos u_digits r_x r_y r_z r_upBits r_steps r_first r_second v_width v_guard v_bits v_stages v_places v_near v_quarter v_eighth v_ln v_shifts v_angles v_gains v_undos v_digits k_x k_y k_z k_upBits k_steps k_first k_second b_jobs b_over b_clocks b_held b_kinds b_operands b_ties b_states b_gone b_toldIn b_broughtIn b_doneIn c_jobs c_over c_clocks c_held c_kinds c_operands c_ties c_states c_gone c_toldIn c_broughtIn c_doneIn d_jobs d_over d_clocks d_held d_kinds d_operands d_ties d_states d_gone d_toldIn d_broughtIn d_doneIn o.2) (some (.int (bI o.1))) := by
  refine std_z (own := RX10) (by decide +kernel) rfl (Nat.le_of_ble_eq_true rfl) ?_
  intro p e s m args below meth c Q X ret H locs hP hS ls hl
  have hx := X.1
  have hb := X.2.1
  have hl : lv_has ls 2 [(0, .ref (q 0)), (1, .int p0)] := hl
  have ret : ∀ {H : Heap} {locs : List Loc} {pc : Nat} {ls : Array Slot} {v : Bool} {z_refusals : Nat → Int32}, some (v, z_refusals) = some o → WP g A (wX g q z_hasUnit z_hasImage t_length t_bytes x_width x_guard x_stages x_fold x_pipe x_near s_at o_lines n_at o_kinds o_operands o_ties u_width u_guard u_bits u_stages u_places u_near u_quarter u_eighth u_ln u_shifts u_angles u_gains u_undos u_digits r_x r_y r_z r_upBits r_steps r_first r_second v_width v_guard v_bits v_stages v_places v_near v_quarter v_eighth v_ln v_shifts v_angles v_gains v_undos v_digits k_x k_y k_z k_upBits k_steps k_first k_second b_jobs b_over b_clocks b_held b_kinds b_operands b_ties b_states b_gone b_toldIn b_broughtIn b_doneIn c_jobs c_over c_clocks c_held c_kinds c_operands c_ties c_states c_gone c_toldIn c_broughtIn c_doneIn d_jobs d_over d_clocks d_held d_kinds d_operands d_ties d_states d_gone d_toldIn d_broughtIn d_doneIn z_refusals) H → va_S A s.heap H locs → decode cX10_allow pc = .ok (.ireturn, 1) → W p l e rm_X10_allow s m args below meth c H locs 0 0 Q (F0 m pc ls [.int (bI v)]) := by
    intro H locs pc ls v z_refusals h hP hS hd
    cases h
    exact ret hP hS hd
  unfold f_X10_allow at h
  refine lv_aload_n hx hb dX10_allow_0 rfl (lv_at hl 0 rfl) ?_
  refine gf_X10_70_X_0 X hP dX10_allow_1 ?_
  refine lv_iload_n hx hb dX10_allow_4 rfl (lv_at hl 1 rfl) ?_
  refine lv_dup2_11 hx hb dX10_allow_5 rfl rfl ?_
  obtain ⟨hi6, h⟩ := gv_of h
  refine al_X_51 X hP hi6 dX10_allow_6 ?_
  refine lv_iconst (v := 1) hx hb dX10_allow_7 rfl ?_
  refine lv_iadd hx hb dX10_allow_8 ?_
  refine lv_topi (fun v1 ev1 => ?_)
  have h := lt_at ev1 h
  obtain ⟨hi9, h⟩ := gv_of h
  refine as_X_51 (v0 := v1) X hP hS hi9 dX10_allow_9 (fun H locs hP hS => ?_)
  refine lv_iconst (v := 0) hx hb dX10_allow_10 rfl ?_
  exact ret h hP hS dX10_allow_11
abbrev rm_X10_drop : Room := { frames := 1, cells := 0, slots := 0, locals := 22 }
set_option maxRecDepth 100000 in
set_option maxHeartbeats 4000000 in
theorem c_X10_drop {g : gT} {l : Launch} {A : Nat → Prop} {q : Nat → Nat} {z_hasUnit : Bool} {z_hasImage : Bool} {t_length : Int32} {t_bytes : Nat → Int32} {x_width : Int32} {x_guard : Int32} {x_stages : Int32} {x_fold : Int32} {x_pipe : Bool} {x_near : Bool} {s_at : Int32} {o_lines : Int32} {n_at : Int32} {o_kinds : Nat → Int32} {o_operands : Nat → Int32} {o_ties : Nat → Int32} {u_width : Int32} {u_guard : Int32} {u_bits : Int32} {u_stages : Int32} {u_places : Int32} {u_near : Bool} {u_quarter : Int64} {u_eighth : Int64} {u_ln : Int64} {u_shifts : Nat → Int32} {u_angles : Nat → Int64} {u_gains : Nat → Int64} {u_undos : Nat → Int64} {u_digits : Nat → Int32} {r_x : Int64} {r_y : Int64} {r_z : Int64} {r_upBits : Int32} {r_steps : Int32} {r_first : Int64} {r_second : Int64} {v_width : Int32} {v_guard : Int32} {v_bits : Int32} {v_stages : Int32} {v_places : Int32} {v_near : Bool} {v_quarter : Int64} {v_eighth : Int64} {v_ln : Int64} {v_shifts : Nat → Int32} {v_angles : Nat → Int64} {v_gains : Nat → Int64} {v_undos : Nat → Int64} {v_digits : Nat → Int32} {k_x : Int64} {k_y : Int64} {k_z : Int64} {k_upBits : Int32} {k_steps : Int32} {k_first : Int64} {k_second : Int64} {b_jobs : Int32} {b_over : Int32} {b_clocks : Int32} {b_held : Bool} {b_kinds : Nat → Int32} {b_operands : Nat → Int32} {b_ties : Nat → Int32} {b_states : Nat → Int32} {b_gone : Nat → Int32} {b_toldIn : Nat → Int32} {b_broughtIn : Nat → Int32} {b_doneIn : Nat → Int32} {c_jobs : Int32} {c_over : Int32} {c_clocks : Int32} {c_held : Bool} {c_kinds : Nat → Int32} {c_operands : Nat → Int32} {c_ties : Nat → Int32} {c_states : Nat → Int32} {c_gone : Nat → Int32} {c_toldIn : Nat → Int32} {c_broughtIn : Nat → Int32} {c_doneIn : Nat → Int32} {d_jobs : Int32} {d_over : Int32} {d_clocks : Int32} {d_held : Bool} {d_kinds : Nat → Int32} {d_operands : Nat → Int32} {d_ties : Nat → Int32} {d_states : Nat → Int32} {d_gone : Nat → Int32} {d_toldIn : Nat → Int32} {d_broughtIn : Nat → Int32} {d_doneIn : Nat → Int32} {z_refusals : Nat → Int32} {p0 : Int32} {o : Bool × (Nat → Int32) × (Nat → Int32)} (h : f_X10_drop p0 z_hasUnit b_jobs b_ties b_states z_refusals = some o) : Std g l yX10_drop (.code yX10_drop cX10_drop 2 (some .boolean) :: gw) rm_X10_drop A [.ref (q 0), .int p0] (wX g q z_hasUnit z_hasImage t_length t_bytes x_width x_guard x_stages x_fold x_pipe x_near s_at o_lines n_at o_kinds o_operands o_ties u_width u_guard u_bits u_stages u_places u_near u_quarter u_eighth u_ln u_shifts u_angles u_gains u_undos u_digits r_x r_y r_z r_upBits r_steps r_first r_second v_width v_guard v_bits v_stages v_places v_near v_quarter v_eighth v_ln v_shifts v_angles v_gains v_undos v_digits k_x k_y k_z k_upBits k_steps k_first k_second b_jobs b_over b_clocks b_held b_kinds b_operands b_ties b_states b_gone b_toldIn b_broughtIn b_doneIn c_jobs c_over c_clocks c_held c_kinds c_operands c_ties c_states c_gone c_toldIn c_broughtIn c_doneIn d_jobs d_over d_clocks d_held d_kinds d_operands d_ties d_states d_gone d_toldIn d_broughtIn d_doneIn z_refusals) (wX g q z_hasUnit z_hasImage t_length t_bytes x_width x_guard x_stages x_fold x_pipe x_near s_at o_lines n_at o_kinds o_operands o_ties u_width u_guard u_bits u_stages u_places u_near u_quarter u_eighth u_ln u_shifts u_angles u_gains u_undos u_digits r_x r_y r_z r_upBits r_steps r_first r_second v_width v_guard v_bits v_stages v_places v_near v_quarter v_eighth v_ln v_shifts v_angles v_gains v_undos v_digits k_x k_y k_z k_upBits k_steps k_first k_second b_jobs b_over b_clocks b_held b_kinds b_operands b_ties o.2.1 b_gone b_toldIn b_broughtIn b_doneIn c_jobs c_over c_clocks c_held c_kinds c_operands c_ties c_states c_gone c_toldIn c_broughtIn c_doneIn d_jobs d_over d_clocks d_held d_kinds d_operands d_ties d_states d_gone d_toldIn d_broughtIn d_doneIn o.2.2) (some (.int (bI o.1))) := by
  refine std_z (own := RX10) (by decide +kernel) rfl (Nat.le_of_ble_eq_true rfl) ?_
  intro p e s m args below meth c Q X ret H locs hP hS ls hl
  have hx := X.1
  have hb := X.2.1
  have hl : lv_has ls 2 [(0, .ref (q 0)), (1, .int p0)] := hl
  have ret : ∀ {H : Heap} {locs : List Loc} {pc : Nat} {ls : Array Slot} {v : Bool} {b_states : Nat → Int32} {z_refusals : Nat → Int32}, some (v, b_states, z_refusals) = some o → WP g A (wX g q z_hasUnit z_hasImage t_length t_bytes x_width x_guard x_stages x_fold x_pipe x_near s_at o_lines n_at o_kinds o_operands o_ties u_width u_guard u_bits u_stages u_places u_near u_quarter u_eighth u_ln u_shifts u_angles u_gains u_undos u_digits r_x r_y r_z r_upBits r_steps r_first r_second v_width v_guard v_bits v_stages v_places v_near v_quarter v_eighth v_ln v_shifts v_angles v_gains v_undos v_digits k_x k_y k_z k_upBits k_steps k_first k_second b_jobs b_over b_clocks b_held b_kinds b_operands b_ties b_states b_gone b_toldIn b_broughtIn b_doneIn c_jobs c_over c_clocks c_held c_kinds c_operands c_ties c_states c_gone c_toldIn c_broughtIn c_doneIn d_jobs d_over d_clocks d_held d_kinds d_operands d_ties d_states d_gone d_toldIn d_broughtIn d_doneIn z_refusals) H → va_S A s.heap H locs → decode cX10_drop pc = .ok (.ireturn, 1) → W p l e rm_X10_drop s m args below meth c H locs 0 0 Q (F0 m pc ls [.int (bI v)]) := by
    intro H locs pc ls v b_states z_refusals h hP hS hd
    cases h
    exact ret hP hS hd
  have b37 : ∀ (b_states : Nat → Int32) (z_refusals : Nat → Int32) (H : Heap) (locs : List Loc) (ls : Array Slot), f_X10_drop_b37  z_hasUnit b_jobs b_ties  b_states z_refusals = some o → WP g A (wX g q z_hasUnit z_hasImage t_length t_bytes x_width x_guard x_stages x_fold x_pipe x_near s_at o_lines n_at o_kinds o_operands o_ties u_width u_guard u_bits u_stages u_places u_near u_quarter u_eighth u_ln u_shifts u_angles u_gains u_undos u_digits r_x r_y r_z r_upBits r_steps r_first r_second v_width v_guard v_bits v_stages v_places v_near v_quarter v_eighth v_ln v_shifts v_angles v_gains v_undos v_digits k_x k_y k_z k_upBits k_steps k_first k_second b_jobs b_over b_clocks b_held b_kinds b_operands b_ties b_states b_gone b_toldIn b_broughtIn b_doneIn c_jobs c_over c_clocks c_held c_kinds c_operands c_ties c_states c_gone c_toldIn c_broughtIn c_doneIn d_jobs d_over d_clocks d_held d_kinds d_operands d_ties d_states d_gone d_toldIn d_broughtIn d_doneIn z_refusals) H → va_S A s.heap H locs → lv_has ls 2 [(0, .ref (q 0))] → W p l e rm_X10_drop s m args below meth c H locs 0 0 Q (F0 m 37 ls []) := by
    intro  b_states z_refusals H locs ls h hP hS hl
    unfold f_X10_drop_b37 at h
    refine lv_aload_n hx hb dX10_drop_37 rfl (lv_at hl 0 rfl) ?_
    refine lv_iconst (v := 3) hx hb dX10_drop_38 rfl ?_
    obtain ⟨o2, hco2, h⟩ := bd_of h
    refine kV (rest := []) X dX10_drop_39 wd_4_68 mw_X10_allow wd_4_70 wp_5_4 hP (k0 := 0) rfl rfl rfl hS (fun _ z => z) (c_X10_allow hco2) rfl hl.1 rfl (Nat.le_of_ble_eq_true rfl) rfl rfl ⟨Nat.le_of_ble_eq_true rfl, Nat.le_of_ble_eq_true rfl⟩ (fun H locs hP _ _ hS => ?_)
    refine W.eq (g2 := F0 m 42 ls [.int (bI o2.1)]) rfl ?_
    exact ret h hP hS dX10_drop_42
  unfold f_X10_drop at h
  refine lv_aload_n hx hb dX10_drop_0 rfl (lv_at hl 0 rfl) ?_
  refine lv_iload_n hx hb dX10_drop_1 rfl (lv_at hl 1 rfl) ?_
  obtain ⟨o1, hco1, h⟩ := bd_of h
  refine kV (rest := []) X dX10_drop_2 wd_4_64 mw_X10_isJob wd_4_66 wp_5_3 hP (k0 := 0) rfl rfl rfl hS (fun _ z => z) (c_X10_isJob hco1) rfl hl.1 rfl (Nat.le_of_ble_eq_true rfl) rfl rfl ⟨Nat.le_of_ble_eq_true rfl, Nat.le_of_ble_eq_true rfl⟩ (fun H locs hP _ _ hS => ?_)
  refine W.eq (g2 := F0 m 5 ls [.int (bI o1)]) rfl ?_
  refine rb_ne (tgt := 14) hx hb dX10_drop_5 rfl (fun c5 => ?_) (fun c5 => ?_)
  · have h := br_p c5 h
    refine lv_aload_n hx hb dX10_drop_14 rfl (lv_at hl 0 rfl) ?_
    refine gf_X10_60_X_0 X hP dX10_drop_15 ?_
    refine gf_X10_233_X_24 X hP dX10_drop_18 ?_
    refine lv_iload_n hx hb dX10_drop_21 rfl (lv_at hl 1 rfl) ?_
    obtain ⟨hi22, h⟩ := gv_of h
    refine al_X_28 X hP hi22 dX10_drop_22 ?_
    refine lv_if_ne (tgt := 37) hx hb dX10_drop_23 rfl (fun c23 => ?_) (fun c23 => ?_)
    · have h := br_n c23 h
      exact b37   b_states z_refusals _ _ _ h hP hS (lv_sub hl [0] rfl)
    · have h := br_p c23 h
      refine lv_aload_n hx hb dX10_drop_26 rfl (lv_at hl 0 rfl) ?_
      refine gf_X10_60_X_0 X hP dX10_drop_27 ?_
      refine lv_iload_n hx hb dX10_drop_30 rfl (lv_at hl 1 rfl) ?_
      obtain ⟨o3, hco3, h⟩ := bd_of h
      obtain ⟨hF, hFA⟩ := fo_X_Book_24 hP
      refine kVN (rest := []) X dX10_drop_31 wd_4_72 mw_X1_isAwaited wd_4_74 wp_5_5 hF (k0 := 0) rfl rfl rfl hS hFA (c_X1_isAwaited hco3) rfl hl.1 rfl (Nat.le_of_ble_eq_true rfl) rfl rfl ⟨Nat.le_of_ble_eq_true rfl, Nat.le_of_ble_eq_true rfl⟩ (fun H locs hF1 _ hk hS => ?_)
      have hP := un_X_Book_24 hP hk hF1
      refine W.eq (g2 := F0 m 34 ls [.int (bI o3)]) rfl ?_
      refine rb_eq (tgt := 43) hx hb dX10_drop_34 rfl (fun c34 => ?_) (fun c34 => ?_)
      · have h := br_n c34 h
        refine lv_aload_n hx hb dX10_drop_43 rfl (lv_at hl 0 rfl) ?_
        refine gf_X10_60_X_0 X hP dX10_drop_44 ?_
        refine gf_X10_233_X_24 X hP dX10_drop_47 ?_
        refine lv_iload_n hx hb dX10_drop_50 rfl (lv_at hl 1 rfl) ?_
        refine lv_iconst (v := 3) hx hb dX10_drop_51 rfl ?_
        obtain ⟨hi52, h⟩ := gv_of h
        refine as_X_28 (v0 := (3 : Int32)) X hP hS hi52 dX10_drop_52 (fun H locs hP hS => ?_)
        refine lv_iconst (v := 1) hx hb dX10_drop_53 rfl ?_
        exact ret h hP hS dX10_drop_54
      · have h := br_p c34 h
        exact b37   b_states z_refusals _ _ _ h hP hS (lv_sub hl [0] rfl)
  · have h := br_n c5 h
    refine lv_aload_n hx hb dX10_drop_8 rfl (lv_at hl 0 rfl) ?_
    refine lv_iconst (v := 0) hx hb dX10_drop_9 rfl ?_
    obtain ⟨o4, hco4, h⟩ := bd_of h
    refine kV (rest := []) X dX10_drop_10 wd_4_68 mw_X10_allow wd_4_70 wp_5_4 hP (k0 := 0) rfl rfl rfl hS (fun _ z => z) (c_X10_allow hco4) rfl hl.1 rfl (Nat.le_of_ble_eq_true rfl) rfl rfl ⟨Nat.le_of_ble_eq_true rfl, Nat.le_of_ble_eq_true rfl⟩ (fun H locs hP _ _ hS => ?_)
    refine W.eq (g2 := F0 m 13 ls [.int (bI o4.1)]) rfl ?_
    exact ret h hP hS dX10_drop_13
abbrev rm_X10_isOperand : Room := { frames := 0, cells := 0, slots := 0, locals := 0 }
set_option maxRecDepth 100000 in
set_option maxHeartbeats 4000000 in
theorem c_X10_isOperand {g : gT} {l : Launch} {A : Nat → Prop} {w : va_W} {p0 : Int32} {o : Bool} (h : f_X10_isOperand p0  = some o) : Std g l yX10_isOperand (.code yX10_isOperand cX10_isOperand 1 (some .boolean) :: gw) rm_X10_isOperand A [.int p0] w w (some (.int (bI o))) := by
  refine std_z (own := RX10) (by decide +kernel) rfl (Nat.le_of_ble_eq_true rfl) ?_
  intro p e s m args below meth c Q X ret H locs hP hS ls hl
  have hx := X.1
  have hb := X.2.1
  have hl : lv_has ls 1 [(0, .int p0)] := hl
  have ret : ∀ {H : Heap} {locs : List Loc} {pc : Nat} {ls : Array Slot} {v : Bool} , some (v) = some o → WP g A w H → va_S A s.heap H locs → decode cX10_isOperand pc = .ok (.ireturn, 1) → W p l e rm_X10_isOperand s m args below meth c H locs 0 0 Q (F0 m pc ls [.int (bI v)]) := by
    intro H locs pc ls v h hP hS hd
    cases h
    exact ret hP hS hd
  unfold f_X10_isOperand at h
  refine lv_iload_n hx hb dX10_isOperand_0 rfl (lv_at hl 0 rfl) ?_
  refine jx1 h (P := fun (v1 : Bool) => ∀ ls : Array Slot, lv_has ls 1 [] → W p l e rm_X10_isOperand s m args below meth c H locs 0 0 Q (F0 m 14 ls [.int (bI v1)])) ?_ ?_
  · intro v1 h ls hl
    exact ret h hP hS dX10_isOperand_14
  · intro J h
    refine lv_if_lt (tgt := 13) hx hb dX10_isOperand_1 rfl (fun c1 => ?_) (fun c1 => ?_)
    · refine lv_iconst (v := 0) hx hb dX10_isOperand_13 rfl ?_
      exact J _ (lt_ip c1 h) ls (lv_sub hl [] rfl)
    · refine lv_iload_n hx hb dX10_isOperand_4 rfl (lv_at hl 0 rfl) ?_
      refine lv_iconst (v := 3) hx hb dX10_isOperand_5 rfl ?_
      refine lv_icmp_ge (tgt := 13) hx hb dX10_isOperand_6 rfl (fun c6 => ?_) (fun c6 => ?_)
      · refine lv_iconst (v := 0) hx hb dX10_isOperand_13 rfl ?_
        exact J _ (lt_ip c6 (lt_in c1 h)) ls (lv_sub hl [] rfl)
      · refine lv_iconst (v := 1) hx hb dX10_isOperand_9 rfl ?_
        refine lv_goto (tgt := 14) hx hb dX10_isOperand_10 rfl ?_
        exact J _ (lt_in c6 (lt_in c1 h)) ls (lv_sub hl [] rfl)
abbrev rm_X10_link : Room := { frames := 1, cells := 0, slots := 0, locals := 23 }
set_option maxRecDepth 100000 in
set_option maxHeartbeats 4000000 in
theorem c_X10_link {g : gT} {l : Launch} {A : Nat → Prop} {q : Nat → Nat} {z_hasUnit : Bool} {z_hasImage : Bool} {t_length : Int32} {t_bytes : Nat → Int32} {x_width : Int32} {x_guard : Int32} {x_stages : Int32} {x_fold : Int32} {x_pipe : Bool} {x_near : Bool} {s_at : Int32} {o_lines : Int32} {n_at : Int32} {o_kinds : Nat → Int32} {o_operands : Nat → Int32} {o_ties : Nat → Int32} {u_width : Int32} {u_guard : Int32} {u_bits : Int32} {u_stages : Int32} {u_places : Int32} {u_near : Bool} {u_quarter : Int64} {u_eighth : Int64} {u_ln : Int64} {u_shifts : Nat → Int32} {u_angles : Nat → Int64} {u_gains : Nat → Int64} {u_undos : Nat → Int64} {u_digits : Nat → Int32} {r_x : Int64} {r_y : Int64} {r_z : Int64} {r_upBits : Int32} {r_steps : Int32} {r_first : Int64} {r_second : Int64} {v_width : Int32} {v_guard : Int32} {v_bits : Int32} {v_stages : Int32} {v_places : Int32} {v_near : Bool} {v_quarter : Int64} {v_eighth : Int64} {v_ln : Int64} {v_shifts : Nat → Int32} {v_angles : Nat → Int64} {v_gains : Nat → Int64} {v_undos : Nat → Int64} {v_digits : Nat → Int32} {k_x : Int64} {k_y : Int64} {k_z : Int64} {k_upBits : Int32} {k_steps : Int32} {k_first : Int64} {k_second : Int64} {b_jobs : Int32} {b_over : Int32} {b_clocks : Int32} {b_held : Bool} {b_kinds : Nat → Int32} {b_operands : Nat → Int32} {b_ties : Nat → Int32} {b_states : Nat → Int32} {b_gone : Nat → Int32} {b_toldIn : Nat → Int32} {b_broughtIn : Nat → Int32} {b_doneIn : Nat → Int32} {c_jobs : Int32} {c_over : Int32} {c_clocks : Int32} {c_held : Bool} {c_kinds : Nat → Int32} {c_operands : Nat → Int32} {c_ties : Nat → Int32} {c_states : Nat → Int32} {c_gone : Nat → Int32} {c_toldIn : Nat → Int32} {c_broughtIn : Nat → Int32} {c_doneIn : Nat → Int32} {d_jobs : Int32} {d_over : Int32} {d_clocks : Int32} {d_held : Bool} {d_kinds : Nat → Int32} {d_operands : Nat → Int32} {d_ties : Nat → Int32} {d_states : Nat → Int32} {d_gone : Nat → Int32} {d_toldIn : Nat → Int32} {d_broughtIn : Nat → Int32} {d_doneIn : Nat → Int32} {z_refusals : Nat → Int32} {p0 : Int32} {p1 : Int32} {p2 : Int32} {p3 : Int32} {o : Bool × (Nat → Int32) × (Nat → Int32) × (Nat → Int32)} (h : f_X10_link p0 p1 p2 p3 z_hasUnit b_jobs b_operands b_ties b_states z_refusals = some o) : Std g l yX10_link (.code yX10_link cX10_link 5 (some .boolean) :: gw) rm_X10_link A [.ref (q 0), .int p0, .int p1, .int p2, .int p3] (wX g q z_hasUnit z_hasImage t_length t_bytes x_width x_guard x_stages x_fold x_pipe x_near s_at o_lines n_at o_kinds o_operands o_ties u_width u_guard u_bits u_stages u_places u_near u_quarter u_eighth u_ln u_shifts u_angles u_gains u_undos u_digits r_x r_y r_z r_upBits r_steps r_first r_second v_width v_guard v_bits v_stages v_places v_near v_quarter v_eighth v_ln v_shifts v_angles v_gains v_undos v_digits k_x k_y k_z k_upBits k_steps k_first k_second b_jobs b_over b_clocks b_held b_kinds b_operands b_ties b_states b_gone b_toldIn b_broughtIn b_doneIn c_jobs c_over c_clocks c_held c_kinds c_operands c_ties c_states c_gone c_toldIn c_broughtIn c_doneIn d_jobs d_over d_clocks d_held d_kinds d_operands d_ties d_states d_gone d_toldIn d_broughtIn d_doneIn z_refusals) (wX g q z_hasUnit z_hasImage t_length t_bytes x_width x_guard x_stages x_fold x_pipe x_near s_at o_lines n_at o_kinds o_operands o_ties u_width u_guard u_bits u_stages u_places u_near u_quarter u_eighth u_ln u_shifts u_angles u_gains u_undos u_digits r_x r_y r_z r_upBits r_steps r_first r_second v_width v_guard v_bits v_stages v_places v_near v_quarter v_eighth v_ln v_shifts v_angles v_gains v_undos v_digits k_x k_y k_z k_upBits k_steps k_first k_second b_jobs b_over b_clocks b_held b_kinds o.2.1 o.2.2.1 b_states b_gone b_toldIn b_broughtIn b_doneIn c_jobs c_over c_clocks c_held c_kinds c_operands c_ties c_states c_gone c_toldIn c_broughtIn c_doneIn d_jobs d_over d_clocks d_held d_kinds d_operands d_ties d_states d_gone d_toldIn d_broughtIn d_doneIn o.2.2.2) (some (.int (bI o.1))) := by
  refine std_z (own := RX10) (by decide +kernel) rfl (Nat.le_of_ble_eq_true rfl) ?_
  intro p e s m args below meth c Q X ret H locs hP hS ls hl
  have hx := X.1
  have hb := X.2.1
  have hl : lv_has ls 5 [(0, .ref (q 0)), (1, .int p0), (2, .int p1), (3, .int p2), (4, .int p3)] := hl
  have ret : ∀ {H : Heap} {locs : List Loc} {pc : Nat} {ls : Array Slot} {v : Bool} {b_operands : Nat → Int32} {b_ties : Nat → Int32} {z_refusals : Nat → Int32}, some (v, b_operands, b_ties, z_refusals) = some o → WP g A (wX g q z_hasUnit z_hasImage t_length t_bytes x_width x_guard x_stages x_fold x_pipe x_near s_at o_lines n_at o_kinds o_operands o_ties u_width u_guard u_bits u_stages u_places u_near u_quarter u_eighth u_ln u_shifts u_angles u_gains u_undos u_digits r_x r_y r_z r_upBits r_steps r_first r_second v_width v_guard v_bits v_stages v_places v_near v_quarter v_eighth v_ln v_shifts v_angles v_gains v_undos v_digits k_x k_y k_z k_upBits k_steps k_first k_second b_jobs b_over b_clocks b_held b_kinds b_operands b_ties b_states b_gone b_toldIn b_broughtIn b_doneIn c_jobs c_over c_clocks c_held c_kinds c_operands c_ties c_states c_gone c_toldIn c_broughtIn c_doneIn d_jobs d_over d_clocks d_held d_kinds d_operands d_ties d_states d_gone d_toldIn d_broughtIn d_doneIn z_refusals) H → va_S A s.heap H locs → decode cX10_link pc = .ok (.ireturn, 1) → W p l e rm_X10_link s m args below meth c H locs 0 0 Q (F0 m pc ls [.int (bI v)]) := by
    intro H locs pc ls v b_operands b_ties z_refusals h hP hS hd
    cases h
    exact ret hP hS hd
  have b16 : ∀ (b_operands : Nat → Int32) (b_ties : Nat → Int32) (z_refusals : Nat → Int32) (H : Heap) (locs : List Loc) (ls : Array Slot), f_X10_link_b16  z_hasUnit b_jobs b_states  b_operands b_ties z_refusals = some o → WP g A (wX g q z_hasUnit z_hasImage t_length t_bytes x_width x_guard x_stages x_fold x_pipe x_near s_at o_lines n_at o_kinds o_operands o_ties u_width u_guard u_bits u_stages u_places u_near u_quarter u_eighth u_ln u_shifts u_angles u_gains u_undos u_digits r_x r_y r_z r_upBits r_steps r_first r_second v_width v_guard v_bits v_stages v_places v_near v_quarter v_eighth v_ln v_shifts v_angles v_gains v_undos v_digits k_x k_y k_z k_upBits k_steps k_first k_second b_jobs b_over b_clocks b_held b_kinds b_operands b_ties b_states b_gone b_toldIn b_broughtIn b_doneIn c_jobs c_over c_clocks c_held c_kinds c_operands c_ties c_states c_gone c_toldIn c_broughtIn c_doneIn d_jobs d_over d_clocks d_held d_kinds d_operands d_ties d_states d_gone d_toldIn d_broughtIn d_doneIn z_refusals) H → va_S A s.heap H locs → lv_has ls 5 [(0, .ref (q 0))] → W p l e rm_X10_link s m args below meth c H locs 0 0 Q (F0 m 16 ls []) := by
    intro  b_operands b_ties z_refusals H locs ls h hP hS hl
    unfold f_X10_link_b16 at h
    refine lv_aload_n hx hb dX10_link_16 rfl (lv_at hl 0 rfl) ?_
    refine lv_iconst (v := 0) hx hb dX10_link_17 rfl ?_
    obtain ⟨o2, hco2, h⟩ := bd_of h
    refine kV (rest := []) X dX10_link_18 wd_4_68 mw_X10_allow wd_4_70 wp_5_4 hP (k0 := 0) rfl rfl rfl hS (fun _ z => z) (c_X10_allow hco2) rfl hl.1 rfl (Nat.le_of_ble_eq_true rfl) rfl rfl ⟨Nat.le_of_ble_eq_true rfl, Nat.le_of_ble_eq_true rfl⟩ (fun H locs hP _ _ hS => ?_)
    refine W.eq (g2 := F0 m 21 ls [.int (bI o2.1)]) rfl ?_
    exact ret h hP hS dX10_link_21
  have b42 : ∀ (b_operands : Nat → Int32) (b_ties : Nat → Int32) (z_refusals : Nat → Int32) (H : Heap) (locs : List Loc) (ls : Array Slot), f_X10_link_b42  z_hasUnit b_jobs b_states  b_operands b_ties z_refusals = some o → WP g A (wX g q z_hasUnit z_hasImage t_length t_bytes x_width x_guard x_stages x_fold x_pipe x_near s_at o_lines n_at o_kinds o_operands o_ties u_width u_guard u_bits u_stages u_places u_near u_quarter u_eighth u_ln u_shifts u_angles u_gains u_undos u_digits r_x r_y r_z r_upBits r_steps r_first r_second v_width v_guard v_bits v_stages v_places v_near v_quarter v_eighth v_ln v_shifts v_angles v_gains v_undos v_digits k_x k_y k_z k_upBits k_steps k_first k_second b_jobs b_over b_clocks b_held b_kinds b_operands b_ties b_states b_gone b_toldIn b_broughtIn b_doneIn c_jobs c_over c_clocks c_held c_kinds c_operands c_ties c_states c_gone c_toldIn c_broughtIn c_doneIn d_jobs d_over d_clocks d_held d_kinds d_operands d_ties d_states d_gone d_toldIn d_broughtIn d_doneIn z_refusals) H → va_S A s.heap H locs → lv_has ls 5 [(0, .ref (q 0))] → W p l e rm_X10_link s m args below meth c H locs 0 0 Q (F0 m 42 ls []) := by
    intro  b_operands b_ties z_refusals H locs ls h hP hS hl
    unfold f_X10_link_b42 at h
    refine lv_aload_n hx hb dX10_link_42 rfl (lv_at hl 0 rfl) ?_
    refine lv_iconst (v := 1) hx hb dX10_link_43 rfl ?_
    obtain ⟨o5, hco5, h⟩ := bd_of h
    refine kV (rest := []) X dX10_link_44 wd_4_68 mw_X10_allow wd_4_70 wp_5_4 hP (k0 := 0) rfl rfl rfl hS (fun _ z => z) (c_X10_allow hco5) rfl hl.1 rfl (Nat.le_of_ble_eq_true rfl) rfl rfl ⟨Nat.le_of_ble_eq_true rfl, Nat.le_of_ble_eq_true rfl⟩ (fun H locs hP _ _ hS => ?_)
    refine W.eq (g2 := F0 m 47 ls [.int (bI o5.1)]) rfl ?_
    exact ret h hP hS dX10_link_47
  unfold f_X10_link at h
  refine lv_aload_n hx hb dX10_link_0 rfl (lv_at hl 0 rfl) ?_
  refine lv_iload_n hx hb dX10_link_1 rfl (lv_at hl 1 rfl) ?_
  obtain ⟨o1, hco1, h⟩ := bd_of h
  refine kV (rest := []) X dX10_link_2 wd_4_64 mw_X10_isJob wd_4_66 wp_5_3 hP (k0 := 0) rfl rfl rfl hS (fun _ z => z) (c_X10_isJob hco1) rfl hl.1 rfl (Nat.le_of_ble_eq_true rfl) rfl rfl ⟨Nat.le_of_ble_eq_true rfl, Nat.le_of_ble_eq_true rfl⟩ (fun H locs hP _ _ hS => ?_)
  refine W.eq (g2 := F0 m 5 ls [.int (bI o1)]) rfl ?_
  refine rb_eq (tgt := 16) hx hb dX10_link_5 rfl (fun c5 => ?_) (fun c5 => ?_)
  · have h := br_n c5 h
    exact b16   b_operands b_ties z_refusals _ _ _ h hP hS (lv_sub hl [0] rfl)
  · have h := br_p c5 h
    refine lv_aload_n hx hb dX10_link_8 rfl (lv_at hl 0 rfl) ?_
    refine lv_iload_n hx hb dX10_link_9 rfl (lv_at hl 3 rfl) ?_
    obtain ⟨o3, hco3, h⟩ := bd_of h
    refine kV (rest := []) X dX10_link_10 wd_4_64 mw_X10_isJob wd_4_66 wp_5_3 hP (k0 := 0) rfl rfl rfl hS (fun _ z => z) (c_X10_isJob hco3) rfl hl.1 rfl (Nat.le_of_ble_eq_true rfl) rfl rfl ⟨Nat.le_of_ble_eq_true rfl, Nat.le_of_ble_eq_true rfl⟩ (fun H locs hP _ _ hS => ?_)
    refine W.eq (g2 := F0 m 13 ls [.int (bI o3)]) rfl ?_
    refine rb_ne (tgt := 22) hx hb dX10_link_13 rfl (fun c13 => ?_) (fun c13 => ?_)
    · have h := br_p c13 h
      refine lv_iload_n hx hb dX10_link_22 rfl (lv_at hl 2 rfl) ?_
      obtain ⟨o4, hco4, h⟩ := bd_of h
      refine kS (rest := []) X dX10_link_23 wd_4_80 mw_X10_isOperand wd_4_81 hP hS (fun _ z => z) (c_X10_isOperand hco4) rfl hl.1 rfl (Nat.le_of_ble_eq_true rfl) rfl rfl ⟨Nat.le_of_ble_eq_true rfl, Nat.le_of_ble_eq_true rfl⟩ (fun H locs hP _ _ hS => ?_)
      refine W.eq (g2 := F0 m 26 ls [.int (bI o4)]) rfl ?_
      refine rb_eq (tgt := 42) hx hb dX10_link_26 rfl (fun c26 => ?_) (fun c26 => ?_)
      · have h := br_n c26 h
        exact b42   b_operands b_ties z_refusals _ _ _ h hP hS (lv_sub hl [0] rfl)
      · have h := br_p c26 h
        refine lv_iload hx hb dX10_link_29 (lv_at hl 4 rfl) ?_
        obtain ⟨o6, hco6, h⟩ := bd_of h
        refine kS (rest := []) X dX10_link_31 wd_3_146 mw_X10_isEither wd_3_147 hP hS (fun _ z => z) (c_X10_isEither hco6) rfl hl.1 rfl (Nat.le_of_ble_eq_true rfl) rfl rfl ⟨Nat.le_of_ble_eq_true rfl, Nat.le_of_ble_eq_true rfl⟩ (fun H locs hP _ _ hS => ?_)
        refine W.eq (g2 := F0 m 34 ls [.int (bI o6)]) rfl ?_
        refine rb_eq (tgt := 42) hx hb dX10_link_34 rfl (fun c34 => ?_) (fun c34 => ?_)
        · have h := br_n c34 h
          exact b42   b_operands b_ties z_refusals _ _ _ h hP hS (lv_sub hl [0] rfl)
        · have h := br_p c34 h
          refine lv_iload_n hx hb dX10_link_37 rfl (lv_at hl 3 rfl) ?_
          refine lv_iload_n hx hb dX10_link_38 rfl (lv_at hl 1 rfl) ?_
          refine lv_icmp_lt (tgt := 48) hx hb dX10_link_39 rfl (fun c39 => ?_) (fun c39 => ?_)
          · have h := br_p c39 h
            refine lv_aload_n hx hb dX10_link_48 rfl (lv_at hl 0 rfl) ?_
            refine gf_X10_60_X_0 X hP dX10_link_49 ?_
            refine gf_X10_233_X_24 X hP dX10_link_52 ?_
            refine lv_iload_n hx hb dX10_link_55 rfl (lv_at hl 1 rfl) ?_
            obtain ⟨hi56, h⟩ := gv_of h
            refine al_X_28 X hP hi56 dX10_link_56 ?_
            refine lv_if_eq (tgt := 66) hx hb dX10_link_57 rfl (fun c57 => ?_) (fun c57 => ?_)
            · have h := br_p c57 h
              refine lv_aload_n hx hb dX10_link_66 rfl (lv_at hl 0 rfl) ?_
              refine gf_X10_60_X_0 X hP dX10_link_67 ?_
              refine lv_iload_n hx hb dX10_link_70 rfl (lv_at hl 1 rfl) ?_
              refine lv_iload_n hx hb dX10_link_71 rfl (lv_at hl 2 rfl) ?_
              refine lv_iconst (v := 2) hx hb dX10_link_72 rfl ?_
              refine lv_iload_n hx hb dX10_link_73 rfl (lv_at hl 3 rfl) ?_
              refine lv_imul hx hb dX10_link_74 ?_
              refine lv_iload hx hb dX10_link_75 (lv_at hl 4 rfl) ?_
              refine lv_iadd hx hb dX10_link_77 ?_
              obtain ⟨o7, hco7, h⟩ := bd_of h
              obtain ⟨hF, hFA⟩ := fo_X_Book_24 hP
              refine kVN (rest := []) X dX10_link_78 wd_4_56 mw_X1_tie wd_4_58 wp_5_2 hF (k0 := 0) rfl rfl rfl hS hFA (c_X1_tie hco7) rfl hl.1 rfl (Nat.le_of_ble_eq_true rfl) rfl rfl ⟨Nat.le_of_ble_eq_true rfl, Nat.le_of_ble_eq_true rfl⟩ (fun H locs hF1 _ hk hS => ?_)
              have hP := un_X_Book_24 hP hk hF1
              refine W.eq (g2 := F0 m 81 ls []) rfl ?_
              refine lv_iconst (v := 1) hx hb dX10_link_81 rfl ?_
              exact ret h hP hS dX10_link_82
            · have h := br_n c57 h
              refine lv_aload_n hx hb dX10_link_60 rfl (lv_at hl 0 rfl) ?_
              refine lv_iconst (v := 3) hx hb dX10_link_61 rfl ?_
              obtain ⟨o8, hco8, h⟩ := bd_of h
              refine kV (rest := []) X dX10_link_62 wd_4_68 mw_X10_allow wd_4_70 wp_5_4 hP (k0 := 0) rfl rfl rfl hS (fun _ z => z) (c_X10_allow hco8) rfl hl.1 rfl (Nat.le_of_ble_eq_true rfl) rfl rfl ⟨Nat.le_of_ble_eq_true rfl, Nat.le_of_ble_eq_true rfl⟩ (fun H locs hP _ _ hS => ?_)
              refine W.eq (g2 := F0 m 65 ls [.int (bI o8.1)]) rfl ?_
              exact ret h hP hS dX10_link_65
          · have h := br_n c39 h
            exact b42   b_operands b_ties z_refusals _ _ _ h hP hS (lv_sub hl [0] rfl)
    · have h := br_n c13 h
      exact b16   b_operands b_ties z_refusals _ _ _ h hP hS (lv_sub hl [0] rfl)
abbrev rm_X10_linked : Room := { frames := 1, cells := 0, slots := 0, locals := 21 }
set_option maxRecDepth 100000 in
set_option maxHeartbeats 4000000 in
theorem c_X10_linked {g : gT} {l : Launch} {A : Nat → Prop} {q : Nat → Nat} {z_hasUnit : Bool} {z_hasImage : Bool} {t_length : Int32} {t_bytes : Nat → Int32} {x_width : Int32} {x_guard : Int32} {x_stages : Int32} {x_fold : Int32} {x_pipe : Bool} {x_near : Bool} {s_at : Int32} {o_lines : Int32} {n_at : Int32} {o_kinds : Nat → Int32} {o_operands : Nat → Int32} {o_ties : Nat → Int32} {u_width : Int32} {u_guard : Int32} {u_bits : Int32} {u_stages : Int32} {u_places : Int32} {u_near : Bool} {u_quarter : Int64} {u_eighth : Int64} {u_ln : Int64} {u_shifts : Nat → Int32} {u_angles : Nat → Int64} {u_gains : Nat → Int64} {u_undos : Nat → Int64} {u_digits : Nat → Int32} {r_x : Int64} {r_y : Int64} {r_z : Int64} {r_upBits : Int32} {r_steps : Int32} {r_first : Int64} {r_second : Int64} {v_width : Int32} {v_guard : Int32} {v_bits : Int32} {v_stages : Int32} {v_places : Int32} {v_near : Bool} {v_quarter : Int64} {v_eighth : Int64} {v_ln : Int64} {v_shifts : Nat → Int32} {v_angles : Nat → Int64} {v_gains : Nat → Int64} {v_undos : Nat → Int64} {v_digits : Nat → Int32} {k_x : Int64} {k_y : Int64} {k_z : Int64} {k_upBits : Int32} {k_steps : Int32} {k_first : Int64} {k_second : Int64} {b_jobs : Int32} {b_over : Int32} {b_clocks : Int32} {b_held : Bool} {b_kinds : Nat → Int32} {b_operands : Nat → Int32} {b_ties : Nat → Int32} {b_states : Nat → Int32} {b_gone : Nat → Int32} {b_toldIn : Nat → Int32} {b_broughtIn : Nat → Int32} {b_doneIn : Nat → Int32} {c_jobs : Int32} {c_over : Int32} {c_clocks : Int32} {c_held : Bool} {c_kinds : Nat → Int32} {c_operands : Nat → Int32} {c_ties : Nat → Int32} {c_states : Nat → Int32} {c_gone : Nat → Int32} {c_toldIn : Nat → Int32} {c_broughtIn : Nat → Int32} {c_doneIn : Nat → Int32} {d_jobs : Int32} {d_over : Int32} {d_clocks : Int32} {d_held : Bool} {d_kinds : Nat → Int32} {d_operands : Nat → Int32} {d_ties : Nat → Int32} {d_states : Nat → Int32} {d_gone : Nat → Int32} {d_toldIn : Nat → Int32} {d_broughtIn : Nat → Int32} {d_doneIn : Nat → Int32} {z_refusals : Nat → Int32} {p0 : Int32} {p1 : Int32} {o : Int32} (h : f_X10_linked p0 p1 z_hasUnit b_jobs b_ties = some o) : Std g l yX10_linked (.code yX10_linked cX10_linked 3 (some .int) :: gw) rm_X10_linked A [.ref (q 0), .int p0, .int p1] (wX g q z_hasUnit z_hasImage t_length t_bytes x_width x_guard x_stages x_fold x_pipe x_near s_at o_lines n_at o_kinds o_operands o_ties u_width u_guard u_bits u_stages u_places u_near u_quarter u_eighth u_ln u_shifts u_angles u_gains u_undos u_digits r_x r_y r_z r_upBits r_steps r_first r_second v_width v_guard v_bits v_stages v_places v_near v_quarter v_eighth v_ln v_shifts v_angles v_gains v_undos v_digits k_x k_y k_z k_upBits k_steps k_first k_second b_jobs b_over b_clocks b_held b_kinds b_operands b_ties b_states b_gone b_toldIn b_broughtIn b_doneIn c_jobs c_over c_clocks c_held c_kinds c_operands c_ties c_states c_gone c_toldIn c_broughtIn c_doneIn d_jobs d_over d_clocks d_held d_kinds d_operands d_ties d_states d_gone d_toldIn d_broughtIn d_doneIn z_refusals) (wX g q z_hasUnit z_hasImage t_length t_bytes x_width x_guard x_stages x_fold x_pipe x_near s_at o_lines n_at o_kinds o_operands o_ties u_width u_guard u_bits u_stages u_places u_near u_quarter u_eighth u_ln u_shifts u_angles u_gains u_undos u_digits r_x r_y r_z r_upBits r_steps r_first r_second v_width v_guard v_bits v_stages v_places v_near v_quarter v_eighth v_ln v_shifts v_angles v_gains v_undos v_digits k_x k_y k_z k_upBits k_steps k_first k_second b_jobs b_over b_clocks b_held b_kinds b_operands b_ties b_states b_gone b_toldIn b_broughtIn b_doneIn c_jobs c_over c_clocks c_held c_kinds c_operands c_ties c_states c_gone c_toldIn c_broughtIn c_doneIn d_jobs d_over d_clocks d_held d_kinds d_operands d_ties d_states d_gone d_toldIn d_broughtIn d_doneIn z_refusals) (some (.int o)) := by
  refine std_i (own := RX10) (by decide +kernel) rfl (Nat.le_of_ble_eq_true rfl) ?_
  intro p e s m args below meth c Q X ret H locs hP hS ls hl
  have hx := X.1
  have hb := X.2.1
  have hl : lv_has ls 3 [(0, .ref (q 0)), (1, .int p0), (2, .int p1)] := hl
  have ret : ∀ {H : Heap} {locs : List Loc} {pc : Nat} {ls : Array Slot} {v : Int32} , some (v) = some o → WP g A (wX g q z_hasUnit z_hasImage t_length t_bytes x_width x_guard x_stages x_fold x_pipe x_near s_at o_lines n_at o_kinds o_operands o_ties u_width u_guard u_bits u_stages u_places u_near u_quarter u_eighth u_ln u_shifts u_angles u_gains u_undos u_digits r_x r_y r_z r_upBits r_steps r_first r_second v_width v_guard v_bits v_stages v_places v_near v_quarter v_eighth v_ln v_shifts v_angles v_gains v_undos v_digits k_x k_y k_z k_upBits k_steps k_first k_second b_jobs b_over b_clocks b_held b_kinds b_operands b_ties b_states b_gone b_toldIn b_broughtIn b_doneIn c_jobs c_over c_clocks c_held c_kinds c_operands c_ties c_states c_gone c_toldIn c_broughtIn c_doneIn d_jobs d_over d_clocks d_held d_kinds d_operands d_ties d_states d_gone d_toldIn d_broughtIn d_doneIn z_refusals) H → va_S A s.heap H locs → decode cX10_linked pc = .ok (.ireturn, 1) → W p l e rm_X10_linked s m args below meth c H locs 0 0 Q (F0 m pc ls [.int v]) := by
    intro H locs pc ls v h hP hS hd
    cases h
    exact ret hP hS hd
  have b31 : ∀  (H : Heap) (locs : List Loc) (ls : Array Slot), f_X10_linked_b31  z_hasUnit b_jobs b_ties   = some o → WP g A (wX g q z_hasUnit z_hasImage t_length t_bytes x_width x_guard x_stages x_fold x_pipe x_near s_at o_lines n_at o_kinds o_operands o_ties u_width u_guard u_bits u_stages u_places u_near u_quarter u_eighth u_ln u_shifts u_angles u_gains u_undos u_digits r_x r_y r_z r_upBits r_steps r_first r_second v_width v_guard v_bits v_stages v_places v_near v_quarter v_eighth v_ln v_shifts v_angles v_gains v_undos v_digits k_x k_y k_z k_upBits k_steps k_first k_second b_jobs b_over b_clocks b_held b_kinds b_operands b_ties b_states b_gone b_toldIn b_broughtIn b_doneIn c_jobs c_over c_clocks c_held c_kinds c_operands c_ties c_states c_gone c_toldIn c_broughtIn c_doneIn d_jobs d_over d_clocks d_held d_kinds d_operands d_ties d_states d_gone d_toldIn d_broughtIn d_doneIn z_refusals) H → va_S A s.heap H locs → lv_has ls 3 [] → W p l e rm_X10_linked s m args below meth c H locs 0 0 Q (F0 m 31 ls []) := by
    intro   H locs ls h hP hS hl
    unfold f_X10_linked_b31 at h
    refine lv_iconst (v := (-1)) hx hb dX10_linked_31 rfl ?_
    exact ret h hP hS dX10_linked_32
  unfold f_X10_linked at h
  refine lv_aload_n hx hb dX10_linked_0 rfl (lv_at hl 0 rfl) ?_
  refine lv_iload_n hx hb dX10_linked_1 rfl (lv_at hl 1 rfl) ?_
  obtain ⟨o1, hco1, h⟩ := bd_of h
  refine kV (rest := []) X dX10_linked_2 wd_4_64 mw_X10_isJob wd_4_66 wp_5_3 hP (k0 := 0) rfl rfl rfl hS (fun _ z => z) (c_X10_isJob hco1) rfl hl.1 rfl (Nat.le_of_ble_eq_true rfl) rfl rfl ⟨Nat.le_of_ble_eq_true rfl, Nat.le_of_ble_eq_true rfl⟩ (fun H locs hP _ _ hS => ?_)
  refine W.eq (g2 := F0 m 5 ls [.int (bI o1)]) rfl ?_
  refine rb_eq (tgt := 31) hx hb dX10_linked_5 rfl (fun c5 => ?_) (fun c5 => ?_)
  · have h := br_n c5 h
    exact b31    _ _ _ h hP hS (lv_sub hl [] rfl)
  · have h := br_p c5 h
    refine lv_iload_n hx hb dX10_linked_8 rfl (lv_at hl 2 rfl) ?_
    obtain ⟨o2, hco2, h⟩ := bd_of h
    refine kS (rest := []) X dX10_linked_9 wd_4_80 mw_X10_isOperand wd_4_81 hP hS (fun _ z => z) (c_X10_isOperand hco2) rfl hl.1 rfl (Nat.le_of_ble_eq_true rfl) rfl rfl ⟨Nat.le_of_ble_eq_true rfl, Nat.le_of_ble_eq_true rfl⟩ (fun H locs hP _ _ hS => ?_)
    refine W.eq (g2 := F0 m 12 ls [.int (bI o2)]) rfl ?_
    refine rb_eq (tgt := 31) hx hb dX10_linked_12 rfl (fun c12 => ?_) (fun c12 => ?_)
    · have h := br_n c12 h
      exact b31    _ _ _ h hP hS (lv_sub hl [] rfl)
    · have h := br_p c12 h
      refine lv_aload_n hx hb dX10_linked_15 rfl (lv_at hl 0 rfl) ?_
      refine gf_X10_60_X_0 X hP dX10_linked_16 ?_
      refine gf_X10_246_X_24 X hP dX10_linked_19 ?_
      refine lv_iload_n hx hb dX10_linked_22 rfl (lv_at hl 1 rfl) ?_
      refine lv_iconst (v := 3) hx hb dX10_linked_23 rfl ?_
      refine lv_imul hx hb dX10_linked_24 ?_
      refine lv_iload_n hx hb dX10_linked_25 rfl (lv_at hl 2 rfl) ?_
      refine lv_iadd hx hb dX10_linked_26 ?_
      obtain ⟨hi27, h⟩ := gv_of h
      refine al_X_27 X hP hi27 dX10_linked_27 ?_
      refine lv_goto (tgt := 32) hx hb dX10_linked_28 rfl ?_
      exact ret h hP hS dX10_linked_32
