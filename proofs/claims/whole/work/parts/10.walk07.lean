abbrev rm_X10_clock : Room := { frames := 7, cells := 0, slots := 0, locals := 183 }
set_option maxRecDepth 100000 in
set_option maxHeartbeats 4000000 in
theorem c_X10_clock {g : gT} {l : Launch} {A : Nat → Prop} {q : Nat → Nat} {z_hasUnit : Bool} {z_hasImage : Bool} {t_length : Int32} {t_bytes : Nat → Int32} {x_width : Int32} {x_guard : Int32} {x_stages : Int32} {x_fold : Int32} {x_pipe : Bool} {x_near : Bool} {s_at : Int32} {o_lines : Int32} {n_at : Int32} {o_kinds : Nat → Int32} {o_operands : Nat → Int32} {o_ties : Nat → Int32} {u_width : Int32} {u_guard : Int32} {u_bits : Int32} {u_stages : Int32} {u_places : Int32} {u_near : Bool} {u_quarter : Int64} {u_eighth : Int64} {u_ln : Int64} {u_shifts : Nat → Int32} {u_angles : Nat → Int64} {u_gains : Nat → Int64} {u_undos : Nat → Int64} {u_digits : Nat → Int32} {r_x : Int64} {r_y : Int64} {r_z : Int64} {r_upBits : Int32} {r_steps : Int32} {r_first : Int64} {r_second : Int64} {v_width : Int32} {v_guard : Int32} {v_bits : Int32} {v_stages : Int32} {v_places : Int32} {v_near : Bool} {v_quarter : Int64} {v_eighth : Int64} {v_ln : Int64} {v_shifts : Nat → Int32} {v_angles : Nat → Int64} {v_gains : Nat → Int64} {v_undos : Nat → Int64} {v_digits : Nat → Int32} {k_x : Int64} {k_y : Int64} {k_z : Int64} {k_upBits : Int32} {k_steps : Int32} {k_first : Int64} {k_second : Int64} {b_jobs : Int32} {b_over : Int32} {b_clocks : Int32} {b_held : Bool} {b_kinds : Nat → Int32} {b_operands : Nat → Int32} {b_ties : Nat → Int32} {b_states : Nat → Int32} {b_gone : Nat → Int32} {b_toldIn : Nat → Int32} {b_broughtIn : Nat → Int32} {b_doneIn : Nat → Int32} {c_jobs : Int32} {c_over : Int32} {c_clocks : Int32} {c_held : Bool} {c_kinds : Nat → Int32} {c_operands : Nat → Int32} {c_ties : Nat → Int32} {c_states : Nat → Int32} {c_gone : Nat → Int32} {c_toldIn : Nat → Int32} {c_broughtIn : Nat → Int32} {c_doneIn : Nat → Int32} {d_jobs : Int32} {d_over : Int32} {d_clocks : Int32} {d_held : Bool} {d_kinds : Nat → Int32} {d_operands : Nat → Int32} {d_ties : Nat → Int32} {d_states : Nat → Int32} {d_gone : Nat → Int32} {d_toldIn : Nat → Int32} {d_broughtIn : Nat → Int32} {d_doneIn : Nat → Int32} {z_refusals : Nat → Int32} {p0 : Int32} {o : Int32 × Int64 × Int64 × Int64 × Int32 × Int32 × Int64 × Int64 × Int32 × Int32 × (Nat → Int32) × (Nat → Int32) × (Nat → Int32) × (Nat → Int32) × (Nat → Int32) × (Nat → Int32)} (h : f_X10_clock p0 z_hasUnit u_width u_guard u_bits u_stages u_places u_near u_quarter u_ln u_shifts u_angles u_undos u_digits r_x r_y r_z r_upBits r_steps r_first r_second b_jobs b_over b_clocks b_held b_kinds b_operands b_ties b_states b_gone b_broughtIn b_doneIn z_refusals = some o) : Std g l yX10_clock (.code yX10_clock cX10_clock 4 (some .int) :: gw) rm_X10_clock A [.ref (q 0), .int p0] (wX g q z_hasUnit z_hasImage t_length t_bytes x_width x_guard x_stages x_fold x_pipe x_near s_at o_lines n_at o_kinds o_operands o_ties u_width u_guard u_bits u_stages u_places u_near u_quarter u_eighth u_ln u_shifts u_angles u_gains u_undos u_digits r_x r_y r_z r_upBits r_steps r_first r_second v_width v_guard v_bits v_stages v_places v_near v_quarter v_eighth v_ln v_shifts v_angles v_gains v_undos v_digits k_x k_y k_z k_upBits k_steps k_first k_second b_jobs b_over b_clocks b_held b_kinds b_operands b_ties b_states b_gone b_toldIn b_broughtIn b_doneIn c_jobs c_over c_clocks c_held c_kinds c_operands c_ties c_states c_gone c_toldIn c_broughtIn c_doneIn d_jobs d_over d_clocks d_held d_kinds d_operands d_ties d_states d_gone d_toldIn d_broughtIn d_doneIn z_refusals) (wX g q z_hasUnit z_hasImage t_length t_bytes x_width x_guard x_stages x_fold x_pipe x_near s_at o_lines n_at o_kinds o_operands o_ties u_width u_guard u_bits u_stages u_places u_near u_quarter u_eighth u_ln u_shifts u_angles u_gains u_undos u_digits o.2.1 o.2.2.1 o.2.2.2.1 o.2.2.2.2.1 o.2.2.2.2.2.1 o.2.2.2.2.2.2.1 o.2.2.2.2.2.2.2.1 v_width v_guard v_bits v_stages v_places v_near v_quarter v_eighth v_ln v_shifts v_angles v_gains v_undos v_digits k_x k_y k_z k_upBits k_steps k_first k_second b_jobs o.2.2.2.2.2.2.2.2.1 o.2.2.2.2.2.2.2.2.2.1 b_held b_kinds o.2.2.2.2.2.2.2.2.2.2.1 b_ties o.2.2.2.2.2.2.2.2.2.2.2.1 o.2.2.2.2.2.2.2.2.2.2.2.2.1 b_toldIn o.2.2.2.2.2.2.2.2.2.2.2.2.2.1 o.2.2.2.2.2.2.2.2.2.2.2.2.2.2.1 c_jobs c_over c_clocks c_held c_kinds c_operands c_ties c_states c_gone c_toldIn c_broughtIn c_doneIn d_jobs d_over d_clocks d_held d_kinds d_operands d_ties d_states d_gone d_toldIn d_broughtIn d_doneIn o.2.2.2.2.2.2.2.2.2.2.2.2.2.2.2) (some (.int o.1)) := by
  refine std_i (own := RX10) (by decide +kernel) rfl (Nat.le_of_ble_eq_true rfl) ?_
  intro p e s m args below meth c Q X ret H locs hP hS ls hl
  have hx := X.1
  have hb := X.2.1
  have hl : lv_has ls 4 [(0, .ref (q 0)), (1, .int p0)] := hl
  have ret : ∀ {H : Heap} {locs : List Loc} {pc : Nat} {ls : Array Slot} {v : Int32} {r_x : Int64} {r_y : Int64} {r_z : Int64} {r_upBits : Int32} {r_steps : Int32} {r_first : Int64} {r_second : Int64} {b_over : Int32} {b_clocks : Int32} {b_operands : Nat → Int32} {b_states : Nat → Int32} {b_gone : Nat → Int32} {b_broughtIn : Nat → Int32} {b_doneIn : Nat → Int32} {z_refusals : Nat → Int32}, some (v, r_x, r_y, r_z, r_upBits, r_steps, r_first, r_second, b_over, b_clocks, b_operands, b_states, b_gone, b_broughtIn, b_doneIn, z_refusals) = some o → WP g A (wX g q z_hasUnit z_hasImage t_length t_bytes x_width x_guard x_stages x_fold x_pipe x_near s_at o_lines n_at o_kinds o_operands o_ties u_width u_guard u_bits u_stages u_places u_near u_quarter u_eighth u_ln u_shifts u_angles u_gains u_undos u_digits r_x r_y r_z r_upBits r_steps r_first r_second v_width v_guard v_bits v_stages v_places v_near v_quarter v_eighth v_ln v_shifts v_angles v_gains v_undos v_digits k_x k_y k_z k_upBits k_steps k_first k_second b_jobs b_over b_clocks b_held b_kinds b_operands b_ties b_states b_gone b_toldIn b_broughtIn b_doneIn c_jobs c_over c_clocks c_held c_kinds c_operands c_ties c_states c_gone c_toldIn c_broughtIn c_doneIn d_jobs d_over d_clocks d_held d_kinds d_operands d_ties d_states d_gone d_toldIn d_broughtIn d_doneIn z_refusals) H → va_S A s.heap H locs → decode cX10_clock pc = .ok (.ireturn, 1) → W p l e rm_X10_clock s m args below meth c H locs 0 0 Q (F0 m pc ls [.int v]) := by
    intro H locs pc ls v r_x r_y r_z r_upBits r_steps r_first r_second b_over b_clocks b_operands b_states b_gone b_broughtIn b_doneIn z_refusals h hP hS hd
    cases h
    exact ret hP hS hd
  have b24 : ∀ (r_x : Int64) (r_y : Int64) (r_z : Int64) (r_upBits : Int32) (r_steps : Int32) (r_first : Int64) (r_second : Int64) (b_over : Int32) (b_clocks : Int32) (b_operands : Nat → Int32) (b_states : Nat → Int32) (b_gone : Nat → Int32) (b_broughtIn : Nat → Int32) (b_doneIn : Nat → Int32) (z_refusals : Nat → Int32) (H : Heap) (locs : List Loc) (ls : Array Slot), f_X10_clock_b24  z_hasUnit u_width u_guard u_bits u_stages u_places u_near u_quarter u_ln u_shifts u_angles u_undos u_digits b_jobs b_held b_kinds b_ties  r_x r_y r_z r_upBits r_steps r_first r_second b_over b_clocks b_operands b_states b_gone b_broughtIn b_doneIn z_refusals = some o → WP g A (wX g q z_hasUnit z_hasImage t_length t_bytes x_width x_guard x_stages x_fold x_pipe x_near s_at o_lines n_at o_kinds o_operands o_ties u_width u_guard u_bits u_stages u_places u_near u_quarter u_eighth u_ln u_shifts u_angles u_gains u_undos u_digits r_x r_y r_z r_upBits r_steps r_first r_second v_width v_guard v_bits v_stages v_places v_near v_quarter v_eighth v_ln v_shifts v_angles v_gains v_undos v_digits k_x k_y k_z k_upBits k_steps k_first k_second b_jobs b_over b_clocks b_held b_kinds b_operands b_ties b_states b_gone b_toldIn b_broughtIn b_doneIn c_jobs c_over c_clocks c_held c_kinds c_operands c_ties c_states c_gone c_toldIn c_broughtIn c_doneIn d_jobs d_over d_clocks d_held d_kinds d_operands d_ties d_states d_gone d_toldIn d_broughtIn d_doneIn z_refusals) H → va_S A s.heap H locs → lv_has ls 4 [(0, .ref (q 0))] → W p l e rm_X10_clock s m args below meth c H locs 0 0 Q (F0 m 24 ls []) := by
    intro  r_x r_y r_z r_upBits r_steps r_first r_second b_over b_clocks b_operands b_states b_gone b_broughtIn b_doneIn z_refusals H locs ls h hP hS hl
    unfold f_X10_clock_b24 at h
    refine lv_aload_n hx hb dX10_clock_24 rfl (lv_at hl 0 rfl) ?_
    refine lv_iconst (v := 1) hx hb dX10_clock_25 rfl ?_
    obtain ⟨o1, hco1, h⟩ := bd_of h
    refine kV (rest := []) X dX10_clock_26 wd_4_31 mw_X10_refuse wd_4_33 wp_4_13 hP (k0 := 0) rfl rfl rfl hS (fun _ z => z) (c_X10_refuse hco1) rfl hl.1 rfl (Nat.le_of_ble_eq_true rfl) rfl rfl ⟨Nat.le_of_ble_eq_true rfl, Nat.le_of_ble_eq_true rfl⟩ (fun H locs hP _ _ hS => ?_)
    refine W.eq (g2 := F0 m 29 ls [.int o1.1]) rfl ?_
    exact ret h hP hS dX10_clock_29
  have l34 : ∀ (n : Nat), ∀ (x1 : Int32) (x2 : Int32) (x3 : Int32) (r_x : Int64) (r_y : Int64) (r_z : Int64) (r_upBits : Int32) (r_steps : Int32) (r_first : Int64) (r_second : Int64) (b_over : Int32) (b_clocks : Int32) (b_operands : Nat → Int32) (b_states : Nat → Int32) (b_gone : Nat → Int32) (b_broughtIn : Nat → Int32) (b_doneIn : Nat → Int32) (z_refusals : Nat → Int32) (H : Heap) (locs : List Loc) (ls : Array Slot), f_X10_clock_l34  z_hasUnit u_width u_guard u_bits u_stages u_places u_near u_quarter u_ln u_shifts u_angles u_undos u_digits b_jobs b_held b_kinds b_ties  n x1 x2 x3 r_x r_y r_z r_upBits r_steps r_first r_second b_over b_clocks b_operands b_states b_gone b_broughtIn b_doneIn z_refusals = some o → WP g A (wX g q z_hasUnit z_hasImage t_length t_bytes x_width x_guard x_stages x_fold x_pipe x_near s_at o_lines n_at o_kinds o_operands o_ties u_width u_guard u_bits u_stages u_places u_near u_quarter u_eighth u_ln u_shifts u_angles u_gains u_undos u_digits r_x r_y r_z r_upBits r_steps r_first r_second v_width v_guard v_bits v_stages v_places v_near v_quarter v_eighth v_ln v_shifts v_angles v_gains v_undos v_digits k_x k_y k_z k_upBits k_steps k_first k_second b_jobs b_over b_clocks b_held b_kinds b_operands b_ties b_states b_gone b_toldIn b_broughtIn b_doneIn c_jobs c_over c_clocks c_held c_kinds c_operands c_ties c_states c_gone c_toldIn c_broughtIn c_doneIn d_jobs d_over d_clocks d_held d_kinds d_operands d_ties d_states d_gone d_toldIn d_broughtIn d_doneIn z_refusals) H → va_S A s.heap H locs → lv_has ls 4 [(0, .ref (q 0)), (1, .int x1), (2, .int x2), (3, .int x3)] → W p l e rm_X10_clock s m args below meth c H locs 0 0 Q (F0 m 34 ls []) := by
    intro  n
    induction n with
    | zero =>
      intro x1 x2 x3 r_x r_y r_z r_upBits r_steps r_first r_second b_over b_clocks b_operands b_states b_gone b_broughtIn b_doneIn z_refusals H locs ls h
      exact nz_of h
    | succ n ih =>
      intro x1 x2 x3 r_x r_y r_z r_upBits r_steps r_first r_second b_over b_clocks b_operands b_states b_gone b_broughtIn b_doneIn z_refusals H locs ls h hP hS hl
      rw [f_X10_clock_l34] at h
      refine lv_iload_n hx hb dX10_clock_34 rfl (lv_at hl 3 rfl) ?_
      refine lv_iload_n hx hb dX10_clock_35 rfl (lv_at hl 1 rfl) ?_
      refine lv_icmp_ge (tgt := 59) hx hb dX10_clock_36 rfl (fun c36 => ?_) (fun c36 => ?_)
      · have h := br_p c36 h
        refine lv_iload_n hx hb dX10_clock_59 rfl (lv_at hl 2 rfl) ?_
        exact ret h hP hS dX10_clock_60
      · have h := br_n c36 h
        refine lv_iload_n hx hb dX10_clock_39 rfl (lv_at hl 2 rfl) ?_
        refine lv_aload_n hx hb dX10_clock_40 rfl (lv_at hl 0 rfl) ?_
        refine gf_X10_60_X_0 X hP dX10_clock_41 ?_
        refine lv_aload_n hx hb dX10_clock_44 rfl (lv_at hl 0 rfl) ?_
        refine gf_X10_46_X_0 X hP dX10_clock_45 ?_
        obtain ⟨o2, hco2, h⟩ := bd_of h
        obtain ⟨hF, hFA⟩ := fo_X_BT_24_16 hP
        refine kVN (rest := [.int x2]) X dX10_clock_48 wd_4_91 mw_X1_tick wd_4_93 wp_5_6 hF (k0 := 0) rfl rfl rfl hS hFA (c_X1_tick hco2) rfl hl.1 rfl (Nat.le_of_ble_eq_true rfl) rfl rfl ⟨Nat.le_of_ble_eq_true rfl, Nat.le_of_ble_eq_true rfl⟩ (fun H locs hF1 _ hk hS => ?_)
        have hP := un_X_BT_24_16 hP hk hF1
        refine W.eq (g2 := F0 m 51 ls [.int o2.1, .int x2]) rfl ?_
        refine lv_iadd hx hb dX10_clock_51 ?_
        refine lv_topi (fun v3 ev3 => ?_)
        have h := lt_at ev3 h
        refine lv_istore_n (lv' := [(2, .int v3), (0, .ref (q 0)), (1, .int x1), (3, .int x3)]) hx hb dX10_clock_52 rfl hl (by decide) rfl (fun ls hl => ?_)
        obtain ⟨v4, ev4⟩ : ∃ z : Int32, z = (x3 + 1) := ⟨_, rfl⟩
        have h := lt_at ev4 h
        refine lv_iinc (v := v4) (lv' := [(3, .int v4), (2, .int v3), (0, .ref (q 0)), (1, .int x1)]) hx hb dX10_clock_53 hl (k := 3) rfl (by rw [ev4]; rfl) (by decide) rfl (fun ls hl => ?_)
        refine lv_goto (tgt := 34) hx hb dX10_clock_56 rfl ?_
        exact ih x1 v3 v4 o2.2.2.2.2.2.2.2.2.1 o2.2.2.2.2.2.2.2.2.2.1 o2.2.2.2.2.2.2.2.2.2.2.1 o2.2.2.2.2.2.2.2.2.2.2.2.1 o2.2.2.2.2.2.2.2.2.2.2.2.2.1 o2.2.2.2.2.2.2.2.2.2.2.2.2.2.1 o2.2.2.2.2.2.2.2.2.2.2.2.2.2.2 o2.2.1 o2.2.2.1 o2.2.2.2.1 o2.2.2.2.2.1 o2.2.2.2.2.2.1 o2.2.2.2.2.2.2.1 o2.2.2.2.2.2.2.2.1 z_refusals _ _ _ h hP hS (lv_sub hl [2, 3, 1, 0] rfl)
  unfold f_X10_clock at h
  refine lv_aload_n hx hb dX10_clock_0 rfl (lv_at hl 0 rfl) ?_
  refine gf_X10_110_X_0 X hP dX10_clock_1 ?_
  refine rb_ne (tgt := 13) hx hb dX10_clock_4 rfl (fun c4 => ?_) (fun c4 => ?_)
  · have h := br_p c4 h
    refine lv_iload_n hx hb dX10_clock_13 rfl (lv_at hl 1 rfl) ?_
    refine lv_iconst (v := 1) hx hb dX10_clock_14 rfl ?_
    refine lv_icmp_lt (tgt := 24) hx hb dX10_clock_15 rfl (fun c15 => ?_) (fun c15 => ?_)
    · have h := br_p c15 h
      exact b24   r_x r_y r_z r_upBits r_steps r_first r_second b_over b_clocks b_operands b_states b_gone b_broughtIn b_doneIn z_refusals _ _ _ h hP hS (lv_sub hl [0] rfl)
    · have h := br_n c15 h
      refine lv_iload_n hx hb dX10_clock_18 rfl (lv_at hl 1 rfl) ?_
      refine lv_bipush (v := 100) hx hb dX10_clock_19 rfl ?_
      refine lv_icmp_le (tgt := 30) hx hb dX10_clock_21 rfl (fun c21 => ?_) (fun c21 => ?_)
      · have h := br_p c21 h
        refine lv_iconst (v := 0) hx hb dX10_clock_30 rfl ?_
        refine lv_istore_n (lv' := [(2, .int 0), (0, .ref (q 0)), (1, .int p0)]) hx hb dX10_clock_31 rfl hl (by decide) rfl (fun ls hl => ?_)
        refine lv_iconst (v := 0) hx hb dX10_clock_32 rfl ?_
        refine lv_istore_n (lv' := [(3, .int 0), (2, .int 0), (0, .ref (q 0)), (1, .int p0)]) hx hb dX10_clock_33 rfl hl (by decide) rfl (fun ls hl => ?_)
        exact l34  FU p0 (0 : Int32) (0 : Int32) r_x r_y r_z r_upBits r_steps r_first r_second b_over b_clocks b_operands b_states b_gone b_broughtIn b_doneIn z_refusals _ _ _ h hP hS (lv_sub hl [2, 3, 1, 0] rfl)
      · have h := br_n c21 h
        exact b24   r_x r_y r_z r_upBits r_steps r_first r_second b_over b_clocks b_operands b_states b_gone b_broughtIn b_doneIn z_refusals _ _ _ h hP hS (lv_sub hl [0] rfl)
  · have h := br_n c4 h
    refine lv_aload_n hx hb dX10_clock_7 rfl (lv_at hl 0 rfl) ?_
    refine lv_iconst (v := 0) hx hb dX10_clock_8 rfl ?_
    obtain ⟨o5, hco5, h⟩ := bd_of h
    refine kV (rest := []) X dX10_clock_9 wd_4_31 mw_X10_refuse wd_4_33 wp_4_13 hP (k0 := 0) rfl rfl rfl hS (fun _ z => z) (c_X10_refuse hco5) rfl hl.1 rfl (Nat.le_of_ble_eq_true rfl) rfl rfl ⟨Nat.le_of_ble_eq_true rfl, Nat.le_of_ble_eq_true rfl⟩ (fun H locs hP _ _ hS => ?_)
    refine W.eq (g2 := F0 m 12 ls [.int o5.1]) rfl ?_
    exact ret h hP hS dX10_clock_12
abbrev rm_X10_hold : Room := { frames := 1, cells := 0, slots := 0, locals := 21 }
set_option maxRecDepth 100000 in
set_option maxHeartbeats 4000000 in
theorem c_X10_hold {g : gT} {l : Launch} {A : Nat → Prop} {q : Nat → Nat} {z_hasUnit : Bool} {z_hasImage : Bool} {t_length : Int32} {t_bytes : Nat → Int32} {x_width : Int32} {x_guard : Int32} {x_stages : Int32} {x_fold : Int32} {x_pipe : Bool} {x_near : Bool} {s_at : Int32} {o_lines : Int32} {n_at : Int32} {o_kinds : Nat → Int32} {o_operands : Nat → Int32} {o_ties : Nat → Int32} {u_width : Int32} {u_guard : Int32} {u_bits : Int32} {u_stages : Int32} {u_places : Int32} {u_near : Bool} {u_quarter : Int64} {u_eighth : Int64} {u_ln : Int64} {u_shifts : Nat → Int32} {u_angles : Nat → Int64} {u_gains : Nat → Int64} {u_undos : Nat → Int64} {u_digits : Nat → Int32} {r_x : Int64} {r_y : Int64} {r_z : Int64} {r_upBits : Int32} {r_steps : Int32} {r_first : Int64} {r_second : Int64} {v_width : Int32} {v_guard : Int32} {v_bits : Int32} {v_stages : Int32} {v_places : Int32} {v_near : Bool} {v_quarter : Int64} {v_eighth : Int64} {v_ln : Int64} {v_shifts : Nat → Int32} {v_angles : Nat → Int64} {v_gains : Nat → Int64} {v_undos : Nat → Int64} {v_digits : Nat → Int32} {k_x : Int64} {k_y : Int64} {k_z : Int64} {k_upBits : Int32} {k_steps : Int32} {k_first : Int64} {k_second : Int64} {b_jobs : Int32} {b_over : Int32} {b_clocks : Int32} {b_held : Bool} {b_kinds : Nat → Int32} {b_operands : Nat → Int32} {b_ties : Nat → Int32} {b_states : Nat → Int32} {b_gone : Nat → Int32} {b_toldIn : Nat → Int32} {b_broughtIn : Nat → Int32} {b_doneIn : Nat → Int32} {c_jobs : Int32} {c_over : Int32} {c_clocks : Int32} {c_held : Bool} {c_kinds : Nat → Int32} {c_operands : Nat → Int32} {c_ties : Nat → Int32} {c_states : Nat → Int32} {c_gone : Nat → Int32} {c_toldIn : Nat → Int32} {c_broughtIn : Nat → Int32} {c_doneIn : Nat → Int32} {d_jobs : Int32} {d_over : Int32} {d_clocks : Int32} {d_held : Bool} {d_kinds : Nat → Int32} {d_operands : Nat → Int32} {d_ties : Nat → Int32} {d_states : Nat → Int32} {d_gone : Nat → Int32} {d_toldIn : Nat → Int32} {d_broughtIn : Nat → Int32} {d_doneIn : Nat → Int32} {z_refusals : Nat → Int32} {p0 : Bool} {o : Bool × Bool × (Nat → Int32)} (h : f_X10_hold p0 z_hasUnit b_held z_refusals = some o) : Std g l yX10_hold (.code yX10_hold cX10_hold 2 (some .boolean) :: gw) rm_X10_hold A [.ref (q 0), .int (bI p0)] (wX g q z_hasUnit z_hasImage t_length t_bytes x_width x_guard x_stages x_fold x_pipe x_near s_at o_lines n_at o_kinds o_operands o_ties u_width u_guard u_bits u_stages u_places u_near u_quarter u_eighth u_ln u_shifts u_angles u_gains u_undos u_digits r_x r_y r_z r_upBits r_steps r_first r_second v_width v_guard v_bits v_stages v_places v_near v_quarter v_eighth v_ln v_shifts v_angles v_gains v_undos v_digits k_x k_y k_z k_upBits k_steps k_first k_second b_jobs b_over b_clocks b_held b_kinds b_operands b_ties b_states b_gone b_toldIn b_broughtIn b_doneIn c_jobs c_over c_clocks c_held c_kinds c_operands c_ties c_states c_gone c_toldIn c_broughtIn c_doneIn d_jobs d_over d_clocks d_held d_kinds d_operands d_ties d_states d_gone d_toldIn d_broughtIn d_doneIn z_refusals) (wX g q z_hasUnit z_hasImage t_length t_bytes x_width x_guard x_stages x_fold x_pipe x_near s_at o_lines n_at o_kinds o_operands o_ties u_width u_guard u_bits u_stages u_places u_near u_quarter u_eighth u_ln u_shifts u_angles u_gains u_undos u_digits r_x r_y r_z r_upBits r_steps r_first r_second v_width v_guard v_bits v_stages v_places v_near v_quarter v_eighth v_ln v_shifts v_angles v_gains v_undos v_digits k_x k_y k_z k_upBits k_steps k_first k_second b_jobs b_over b_clocks o.2.1 b_kinds b_operands b_ties b_states b_gone b_toldIn b_broughtIn b_doneIn c_jobs c_over c_clocks c_held c_kinds c_operands c_ties c_states c_gone c_toldIn c_broughtIn c_doneIn d_jobs d_over d_clocks d_held d_kinds d_operands d_ties d_states d_gone d_toldIn d_broughtIn d_doneIn o.2.2) (some (.int (bI o.1))) := by
  refine std_z (own := RX10) (by decide +kernel) rfl (Nat.le_of_ble_eq_true rfl) ?_
  intro p e s m args below meth c Q X ret H locs hP hS ls hl
  have hx := X.1
  have hb := X.2.1
  have hl : lv_has ls 2 [(0, .ref (q 0)), (1, .int (bI p0))] := hl
  have ret : ∀ {H : Heap} {locs : List Loc} {pc : Nat} {ls : Array Slot} {v : Bool} {b_held : Bool} {z_refusals : Nat → Int32}, some (v, b_held, z_refusals) = some o → WP g A (wX g q z_hasUnit z_hasImage t_length t_bytes x_width x_guard x_stages x_fold x_pipe x_near s_at o_lines n_at o_kinds o_operands o_ties u_width u_guard u_bits u_stages u_places u_near u_quarter u_eighth u_ln u_shifts u_angles u_gains u_undos u_digits r_x r_y r_z r_upBits r_steps r_first r_second v_width v_guard v_bits v_stages v_places v_near v_quarter v_eighth v_ln v_shifts v_angles v_gains v_undos v_digits k_x k_y k_z k_upBits k_steps k_first k_second b_jobs b_over b_clocks b_held b_kinds b_operands b_ties b_states b_gone b_toldIn b_broughtIn b_doneIn c_jobs c_over c_clocks c_held c_kinds c_operands c_ties c_states c_gone c_toldIn c_broughtIn c_doneIn d_jobs d_over d_clocks d_held d_kinds d_operands d_ties d_states d_gone d_toldIn d_broughtIn d_doneIn z_refusals) H → va_S A s.heap H locs → decode cX10_hold pc = .ok (.ireturn, 1) → W p l e rm_X10_hold s m args below meth c H locs 0 0 Q (F0 m pc ls [.int (bI v)]) := by
    intro H locs pc ls v b_held z_refusals h hP hS hd
    cases h
    exact ret hP hS hd
  unfold f_X10_hold at h
  refine lv_aload_n hx hb dX10_hold_0 rfl (lv_at hl 0 rfl) ?_
  refine gf_X10_110_X_0 X hP dX10_hold_1 ?_
  refine rb_ne (tgt := 13) hx hb dX10_hold_4 rfl (fun c4 => ?_) (fun c4 => ?_)
  · have h := br_p c4 h
    refine lv_aload_n hx hb dX10_hold_13 rfl (lv_at hl 0 rfl) ?_
    refine gf_X10_60_X_0 X hP dX10_hold_14 ?_
    refine gf_X10_134_X_24 X hP dX10_hold_17 ?_
    refine lv_iload_n hx hb dX10_hold_20 rfl (lv_at hl 1 rfl) ?_
    refine lv_icmp_ne (tgt := 30) hx hb dX10_hold_21 rfl (fun c21 => ?_) (fun c21 => ?_)
    · have h := br_n c21 h
      refine lv_aload_n hx hb dX10_hold_30 rfl (lv_at hl 0 rfl) ?_
      refine gf_X10_60_X_0 X hP dX10_hold_31 ?_
      refine lv_iload_n hx hb dX10_hold_34 rfl (lv_at hl 1 rfl) ?_
      refine pf_X10_134_X_24 (v0 := p0) X hP hS dX10_hold_35 (fun H locs hP hS => ?_)
      refine lv_iconst (v := 1) hx hb dX10_hold_38 rfl ?_
      exact ret h hP hS dX10_hold_39
    · have h := br_p c21 h
      refine lv_aload_n hx hb dX10_hold_24 rfl (lv_at hl 0 rfl) ?_
      refine lv_iconst (v := 3) hx hb dX10_hold_25 rfl ?_
      obtain ⟨o1, hco1, h⟩ := bd_of h
      refine kV (rest := []) X dX10_hold_26 wd_4_68 mw_X10_allow wd_4_70 wp_5_4 hP (k0 := 0) rfl rfl rfl hS (fun _ z => z) (c_X10_allow hco1) rfl hl.1 rfl (Nat.le_of_ble_eq_true rfl) rfl rfl ⟨Nat.le_of_ble_eq_true rfl, Nat.le_of_ble_eq_true rfl⟩ (fun H locs hP _ _ hS => ?_)
      refine W.eq (g2 := F0 m 29 ls [.int (bI o1.1)]) rfl ?_
      exact ret h hP hS dX10_hold_29
  · have h := br_n c4 h
    refine lv_aload_n hx hb dX10_hold_7 rfl (lv_at hl 0 rfl) ?_
    refine lv_iconst (v := 0) hx hb dX10_hold_8 rfl ?_
    obtain ⟨o2, hco2, h⟩ := bd_of h
    refine kV (rest := []) X dX10_hold_9 wd_4_68 mw_X10_allow wd_4_70 wp_5_4 hP (k0 := 0) rfl rfl rfl hS (fun _ z => z) (c_X10_allow hco2) rfl hl.1 rfl (Nat.le_of_ble_eq_true rfl) rfl rfl ⟨Nat.le_of_ble_eq_true rfl, Nat.le_of_ble_eq_true rfl⟩ (fun H locs hP _ _ hS => ?_)
    refine W.eq (g2 := F0 m 12 ls [.int (bI o2.1)]) rfl ?_
    exact ret h hP hS dX10_hold_12
abbrev rm_X10_kindOf : Room := { frames := 0, cells := 0, slots := 0, locals := 0 }
set_option maxRecDepth 100000 in
set_option maxHeartbeats 4000000 in
theorem c_X10_kindOf {g : gT} {l : Launch} {A : Nat → Prop} {q : Nat → Nat} {z_hasUnit : Bool} {z_hasImage : Bool} {t_length : Int32} {t_bytes : Nat → Int32} {x_width : Int32} {x_guard : Int32} {x_stages : Int32} {x_fold : Int32} {x_pipe : Bool} {x_near : Bool} {s_at : Int32} {o_lines : Int32} {n_at : Int32} {o_kinds : Nat → Int32} {o_operands : Nat → Int32} {o_ties : Nat → Int32} {u_width : Int32} {u_guard : Int32} {u_bits : Int32} {u_stages : Int32} {u_places : Int32} {u_near : Bool} {u_quarter : Int64} {u_eighth : Int64} {u_ln : Int64} {u_shifts : Nat → Int32} {u_angles : Nat → Int64} {u_gains : Nat → Int64} {u_undos : Nat → Int64} {u_digits : Nat → Int32} {r_x : Int64} {r_y : Int64} {r_z : Int64} {r_upBits : Int32} {r_steps : Int32} {r_first : Int64} {r_second : Int64} {v_width : Int32} {v_guard : Int32} {v_bits : Int32} {v_stages : Int32} {v_places : Int32} {v_near : Bool} {v_quarter : Int64} {v_eighth : Int64} {v_ln : Int64} {v_shifts : Nat → Int32} {v_angles : Nat → Int64} {v_gains : Nat → Int64} {v_undos : Nat → Int64} {v_digits : Nat → Int32} {k_x : Int64} {k_y : Int64} {k_z : Int64} {k_upBits : Int32} {k_steps : Int32} {k_first : Int64} {k_second : Int64} {b_jobs : Int32} {b_over : Int32} {b_clocks : Int32} {b_held : Bool} {b_kinds : Nat → Int32} {b_operands : Nat → Int32} {b_ties : Nat → Int32} {b_states : Nat → Int32} {b_gone : Nat → Int32} {b_toldIn : Nat → Int32} {b_broughtIn : Nat → Int32} {b_doneIn : Nat → Int32} {c_jobs : Int32} {c_over : Int32} {c_clocks : Int32} {c_held : Bool} {c_kinds : Nat → Int32} {c_operands : Nat → Int32} {c_ties : Nat → Int32} {c_states : Nat → Int32} {c_gone : Nat → Int32} {c_toldIn : Nat → Int32} {c_broughtIn : Nat → Int32} {c_doneIn : Nat → Int32} {d_jobs : Int32} {d_over : Int32} {d_clocks : Int32} {d_held : Bool} {d_kinds : Nat → Int32} {d_operands : Nat → Int32} {d_ties : Nat → Int32} {d_states : Nat → Int32} {d_gone : Nat → Int32} {d_toldIn : Nat → Int32} {d_broughtIn : Nat → Int32} {d_doneIn : Nat → Int32} {z_refusals : Nat → Int32} {p0 : Int32} {o : Nat} (h : f_X10_kindOf p0 b_kinds = some o) : Std g l yX10_kindOf (.code yX10_kindOf cX10_kindOf 2 (some (.object "TurnShifts$Kind")) :: gw) rm_X10_kindOf A [.ref (q 0), .int p0] (wX g q z_hasUnit z_hasImage t_length t_bytes x_width x_guard x_stages x_fold x_pipe x_near s_at o_lines n_at o_kinds o_operands o_ties u_width u_guard u_bits u_stages u_places u_near u_quarter u_eighth u_ln u_shifts u_angles u_gains u_undos u_digits r_x r_y r_z r_upBits r_steps r_first r_second v_width v_guard v_bits v_stages v_places v_near v_quarter v_eighth v_ln v_shifts v_angles v_gains v_undos v_digits k_x k_y k_z k_upBits k_steps k_first k_second b_jobs b_over b_clocks b_held b_kinds b_operands b_ties b_states b_gone b_toldIn b_broughtIn b_doneIn c_jobs c_over c_clocks c_held c_kinds c_operands c_ties c_states c_gone c_toldIn c_broughtIn c_doneIn d_jobs d_over d_clocks d_held d_kinds d_operands d_ties d_states d_gone d_toldIn d_broughtIn d_doneIn z_refusals) (wX g q z_hasUnit z_hasImage t_length t_bytes x_width x_guard x_stages x_fold x_pipe x_near s_at o_lines n_at o_kinds o_operands o_ties u_width u_guard u_bits u_stages u_places u_near u_quarter u_eighth u_ln u_shifts u_angles u_gains u_undos u_digits r_x r_y r_z r_upBits r_steps r_first r_second v_width v_guard v_bits v_stages v_places v_near v_quarter v_eighth v_ln v_shifts v_angles v_gains v_undos v_digits k_x k_y k_z k_upBits k_steps k_first k_second b_jobs b_over b_clocks b_held b_kinds b_operands b_ties b_states b_gone b_toldIn b_broughtIn b_doneIn c_jobs c_over c_clocks c_held c_kinds c_operands c_ties c_states c_gone c_toldIn c_broughtIn c_doneIn d_jobs d_over d_clocks d_held d_kinds d_operands d_ties d_states d_gone d_toldIn d_broughtIn d_doneIn z_refusals) (some (.ref (g.2 (20 + o)))) := by
  refine std_a (own := RX10) (by decide +kernel) rfl (Nat.le_of_ble_eq_true rfl) ?_
  intro p e s m args below meth c Q X ret H locs hP hS ls hl
  have hx := X.1
  have hb := X.2.1
  have hl : lv_has ls 2 [(0, .ref (q 0)), (1, .int p0)] := hl
  have ret : ∀ {H : Heap} {locs : List Loc} {pc : Nat} {ls : Array Slot} {v : Nat} , some (v) = some o → WP g A (wX g q z_hasUnit z_hasImage t_length t_bytes x_width x_guard x_stages x_fold x_pipe x_near s_at o_lines n_at o_kinds o_operands o_ties u_width u_guard u_bits u_stages u_places u_near u_quarter u_eighth u_ln u_shifts u_angles u_gains u_undos u_digits r_x r_y r_z r_upBits r_steps r_first r_second v_width v_guard v_bits v_stages v_places v_near v_quarter v_eighth v_ln v_shifts v_angles v_gains v_undos v_digits k_x k_y k_z k_upBits k_steps k_first k_second b_jobs b_over b_clocks b_held b_kinds b_operands b_ties b_states b_gone b_toldIn b_broughtIn b_doneIn c_jobs c_over c_clocks c_held c_kinds c_operands c_ties c_states c_gone c_toldIn c_broughtIn c_doneIn d_jobs d_over d_clocks d_held d_kinds d_operands d_ties d_states d_gone d_toldIn d_broughtIn d_doneIn z_refusals) H → va_S A s.heap H locs → decode cX10_kindOf pc = .ok (.areturn, 1) → W p l e rm_X10_kindOf s m args below meth c H locs 0 0 Q (F0 m pc ls [.ref (g.2 (20 + v))]) := by
    intro H locs pc ls v h hP hS hd
    cases h
    exact ret hP hS hd
  unfold f_X10_kindOf at h
  refine sgO X hS (sfX X).1 wd_3_145 dX10_kindOf_0 ?_
  refine lv_aload_n hx hb dX10_kindOf_3 rfl (lv_at hl 0 rfl) ?_
  refine gf_X10_60_X_0 X hP dX10_kindOf_4 ?_
  refine gf_X10_260_X_24 X hP dX10_kindOf_7 ?_
  refine lv_iload_n hx hb dX10_kindOf_10 rfl (lv_at hl 1 rfl) ?_
  obtain ⟨hi11, h⟩ := gv_of h
  refine al_X_25 X hP hi11 dX10_kindOf_11 ?_
  obtain ⟨hi12, h⟩ := gv_of h
  refine stq X hS (sfX X).2.2.2.2.2.2.2.1 hi12 dX10_kindOf_12 ?_
  refine W.eq (g2 := F0 m 13 ls [.ref (g.2 (20 + ((b_kinds (p0).toNatClampNeg)).toNatClampNeg))]) rfl ?_
  exact ret h hP hS dX10_kindOf_13
abbrev rm_X10_result : Room := { frames := 5, cells := 0, slots := 0, locals := 134 }
set_option maxRecDepth 100000 in
set_option maxHeartbeats 4000000 in
theorem c_X10_result {g : gT} {l : Launch} {A : Nat → Prop} {q : Nat → Nat} {z_hasUnit : Bool} {z_hasImage : Bool} {t_length : Int32} {t_bytes : Nat → Int32} {x_width : Int32} {x_guard : Int32} {x_stages : Int32} {x_fold : Int32} {x_pipe : Bool} {x_near : Bool} {s_at : Int32} {o_lines : Int32} {n_at : Int32} {o_kinds : Nat → Int32} {o_operands : Nat → Int32} {o_ties : Nat → Int32} {u_width : Int32} {u_guard : Int32} {u_bits : Int32} {u_stages : Int32} {u_places : Int32} {u_near : Bool} {u_quarter : Int64} {u_eighth : Int64} {u_ln : Int64} {u_shifts : Nat → Int32} {u_angles : Nat → Int64} {u_gains : Nat → Int64} {u_undos : Nat → Int64} {u_digits : Nat → Int32} {r_x : Int64} {r_y : Int64} {r_z : Int64} {r_upBits : Int32} {r_steps : Int32} {r_first : Int64} {r_second : Int64} {v_width : Int32} {v_guard : Int32} {v_bits : Int32} {v_stages : Int32} {v_places : Int32} {v_near : Bool} {v_quarter : Int64} {v_eighth : Int64} {v_ln : Int64} {v_shifts : Nat → Int32} {v_angles : Nat → Int64} {v_gains : Nat → Int64} {v_undos : Nat → Int64} {v_digits : Nat → Int32} {k_x : Int64} {k_y : Int64} {k_z : Int64} {k_upBits : Int32} {k_steps : Int32} {k_first : Int64} {k_second : Int64} {b_jobs : Int32} {b_over : Int32} {b_clocks : Int32} {b_held : Bool} {b_kinds : Nat → Int32} {b_operands : Nat → Int32} {b_ties : Nat → Int32} {b_states : Nat → Int32} {b_gone : Nat → Int32} {b_toldIn : Nat → Int32} {b_broughtIn : Nat → Int32} {b_doneIn : Nat → Int32} {c_jobs : Int32} {c_over : Int32} {c_clocks : Int32} {c_held : Bool} {c_kinds : Nat → Int32} {c_operands : Nat → Int32} {c_ties : Nat → Int32} {c_states : Nat → Int32} {c_gone : Nat → Int32} {c_toldIn : Nat → Int32} {c_broughtIn : Nat → Int32} {c_doneIn : Nat → Int32} {d_jobs : Int32} {d_over : Int32} {d_clocks : Int32} {d_held : Bool} {d_kinds : Nat → Int32} {d_operands : Nat → Int32} {d_ties : Nat → Int32} {d_states : Nat → Int32} {d_gone : Nat → Int32} {d_toldIn : Nat → Int32} {d_broughtIn : Nat → Int32} {d_doneIn : Nat → Int32} {z_refusals : Nat → Int32} {p0 : Int32} {p1 : Int32} {o : Int32 × Int64 × Int64 × Int64 × Int32 × Int32 × Int64 × Int64} (h : f_X10_result p0 p1 z_hasUnit u_width u_guard u_bits u_stages u_near u_quarter u_ln u_shifts u_angles u_undos u_digits r_x r_y r_z r_upBits r_steps r_first r_second b_jobs b_kinds b_operands b_states = some o) : Std g l yX10_result (.code yX10_result cX10_result 4 (some .int) :: gw) rm_X10_result A [.ref (q 0), .int p0, .int p1] (wX g q z_hasUnit z_hasImage t_length t_bytes x_width x_guard x_stages x_fold x_pipe x_near s_at o_lines n_at o_kinds o_operands o_ties u_width u_guard u_bits u_stages u_places u_near u_quarter u_eighth u_ln u_shifts u_angles u_gains u_undos u_digits r_x r_y r_z r_upBits r_steps r_first r_second v_width v_guard v_bits v_stages v_places v_near v_quarter v_eighth v_ln v_shifts v_angles v_gains v_undos v_digits k_x k_y k_z k_upBits k_steps k_first k_second b_jobs b_over b_clocks b_held b_kinds b_operands b_ties b_states b_gone b_toldIn b_broughtIn b_doneIn c_jobs c_over c_clocks c_held c_kinds c_operands c_ties c_states c_gone c_toldIn c_broughtIn c_doneIn d_jobs d_over d_clocks d_held d_kinds d_operands d_ties d_states d_gone d_toldIn d_broughtIn d_doneIn z_refusals) (wX g q z_hasUnit z_hasImage t_length t_bytes x_width x_guard x_stages x_fold x_pipe x_near s_at o_lines n_at o_kinds o_operands o_ties u_width u_guard u_bits u_stages u_places u_near u_quarter u_eighth u_ln u_shifts u_angles u_gains u_undos u_digits o.2.1 o.2.2.1 o.2.2.2.1 o.2.2.2.2.1 o.2.2.2.2.2.1 o.2.2.2.2.2.2.1 o.2.2.2.2.2.2.2 v_width v_guard v_bits v_stages v_places v_near v_quarter v_eighth v_ln v_shifts v_angles v_gains v_undos v_digits k_x k_y k_z k_upBits k_steps k_first k_second b_jobs b_over b_clocks b_held b_kinds b_operands b_ties b_states b_gone b_toldIn b_broughtIn b_doneIn c_jobs c_over c_clocks c_held c_kinds c_operands c_ties c_states c_gone c_toldIn c_broughtIn c_doneIn d_jobs d_over d_clocks d_held d_kinds d_operands d_ties d_states d_gone d_toldIn d_broughtIn d_doneIn z_refusals) (some (.int o.1)) := by
  refine std_i (own := RX10) (by decide +kernel) rfl (Nat.le_of_ble_eq_true rfl) ?_
  intro p e s m args below meth c Q X ret H locs hP hS ls hl
  have hx := X.1
  have hb := X.2.1
  have hl : lv_has ls 4 [(0, .ref (q 0)), (1, .int p0), (2, .int p1)] := hl
  have ret : ∀ {H : Heap} {locs : List Loc} {pc : Nat} {ls : Array Slot} {v : Int32} {r_x : Int64} {r_y : Int64} {r_z : Int64} {r_upBits : Int32} {r_steps : Int32} {r_first : Int64} {r_second : Int64}, some (v, r_x, r_y, r_z, r_upBits, r_steps, r_first, r_second) = some o → WP g A (wX g q z_hasUnit z_hasImage t_length t_bytes x_width x_guard x_stages x_fold x_pipe x_near s_at o_lines n_at o_kinds o_operands o_ties u_width u_guard u_bits u_stages u_places u_near u_quarter u_eighth u_ln u_shifts u_angles u_gains u_undos u_digits r_x r_y r_z r_upBits r_steps r_first r_second v_width v_guard v_bits v_stages v_places v_near v_quarter v_eighth v_ln v_shifts v_angles v_gains v_undos v_digits k_x k_y k_z k_upBits k_steps k_first k_second b_jobs b_over b_clocks b_held b_kinds b_operands b_ties b_states b_gone b_toldIn b_broughtIn b_doneIn c_jobs c_over c_clocks c_held c_kinds c_operands c_ties c_states c_gone c_toldIn c_broughtIn c_doneIn d_jobs d_over d_clocks d_held d_kinds d_operands d_ties d_states d_gone d_toldIn d_broughtIn d_doneIn z_refusals) H → va_S A s.heap H locs → decode cX10_result pc = .ok (.ireturn, 1) → W p l e rm_X10_result s m args below meth c H locs 0 0 Q (F0 m pc ls [.int v]) := by
    intro H locs pc ls v r_x r_y r_z r_upBits r_steps r_first r_second h hP hS hd
    cases h
    exact ret hP hS hd
  have b28 : ∀ (r_x : Int64) (r_y : Int64) (r_z : Int64) (r_upBits : Int32) (r_steps : Int32) (r_first : Int64) (r_second : Int64) (H : Heap) (locs : List Loc) (ls : Array Slot), f_X10_result_b28  z_hasUnit u_width u_guard u_bits u_stages u_near u_quarter u_ln u_shifts u_angles u_undos u_digits b_jobs b_kinds b_operands b_states  r_x r_y r_z r_upBits r_steps r_first r_second = some o → WP g A (wX g q z_hasUnit z_hasImage t_length t_bytes x_width x_guard x_stages x_fold x_pipe x_near s_at o_lines n_at o_kinds o_operands o_ties u_width u_guard u_bits u_stages u_places u_near u_quarter u_eighth u_ln u_shifts u_angles u_gains u_undos u_digits r_x r_y r_z r_upBits r_steps r_first r_second v_width v_guard v_bits v_stages v_places v_near v_quarter v_eighth v_ln v_shifts v_angles v_gains v_undos v_digits k_x k_y k_z k_upBits k_steps k_first k_second b_jobs b_over b_clocks b_held b_kinds b_operands b_ties b_states b_gone b_toldIn b_broughtIn b_doneIn c_jobs c_over c_clocks c_held c_kinds c_operands c_ties c_states c_gone c_toldIn c_broughtIn c_doneIn d_jobs d_over d_clocks d_held d_kinds d_operands d_ties d_states d_gone d_toldIn d_broughtIn d_doneIn z_refusals) H → va_S A s.heap H locs → lv_has ls 4 [] → W p l e rm_X10_result s m args below meth c H locs 0 0 Q (F0 m 28 ls []) := by
    intro  r_x r_y r_z r_upBits r_steps r_first r_second H locs ls h hP hS hl
    unfold f_X10_result_b28 at h
    refine lv_ldc (v := (-2147483648)) hx hb X.2.2.2.1 (X.2.2.2.2.1 _ wd_3_123) dX10_result_28 ?_
    exact ret h hP hS dX10_result_30
  unfold f_X10_result at h
  refine lv_aload_n hx hb dX10_result_0 rfl (lv_at hl 0 rfl) ?_
  refine lv_iload_n hx hb dX10_result_1 rfl (lv_at hl 1 rfl) ?_
  obtain ⟨o1, hco1, h⟩ := bd_of h
  refine kV (rest := []) X dX10_result_2 wd_4_64 mw_X10_isJob wd_4_66 wp_5_3 hP (k0 := 0) rfl rfl rfl hS (fun _ z => z) (c_X10_isJob hco1) rfl hl.1 rfl (Nat.le_of_ble_eq_true rfl) rfl rfl ⟨Nat.le_of_ble_eq_true rfl, Nat.le_of_ble_eq_true rfl⟩ (fun H locs hP _ _ hS => ?_)
  refine W.eq (g2 := F0 m 5 ls [.int (bI o1)]) rfl ?_
  refine rb_eq (tgt := 28) hx hb dX10_result_5 rfl (fun c5 => ?_) (fun c5 => ?_)
  · have h := br_n c5 h
    exact b28   r_x r_y r_z r_upBits r_steps r_first r_second _ _ _ h hP hS (lv_sub hl [] rfl)
  · have h := br_p c5 h
    refine lv_iload_n hx hb dX10_result_8 rfl (lv_at hl 2 rfl) ?_
    obtain ⟨o2, hco2, h⟩ := bd_of h
    refine kS (rest := []) X dX10_result_9 wd_3_146 mw_X10_isEither wd_3_147 hP hS (fun _ z => z) (c_X10_isEither hco2) rfl hl.1 rfl (Nat.le_of_ble_eq_true rfl) rfl rfl ⟨Nat.le_of_ble_eq_true rfl, Nat.le_of_ble_eq_true rfl⟩ (fun H locs hP _ _ hS => ?_)
    refine W.eq (g2 := F0 m 12 ls [.int (bI o2)]) rfl ?_
    refine rb_eq (tgt := 28) hx hb dX10_result_12 rfl (fun c12 => ?_) (fun c12 => ?_)
    · have h := br_n c12 h
      exact b28   r_x r_y r_z r_upBits r_steps r_first r_second _ _ _ h hP hS (lv_sub hl [] rfl)
    · have h := br_p c12 h
      refine lv_aload_n hx hb dX10_result_15 rfl (lv_at hl 0 rfl) ?_
      refine gf_X10_60_X_0 X hP dX10_result_16 ?_
      refine gf_X10_233_X_24 X hP dX10_result_19 ?_
      refine lv_iload_n hx hb dX10_result_22 rfl (lv_at hl 1 rfl) ?_
      obtain ⟨hi23, h⟩ := gv_of h
      refine al_X_28 X hP hi23 dX10_result_23 ?_
      refine lv_iconst (v := 2) hx hb dX10_result_24 rfl ?_
      refine lv_icmp_eq (tgt := 31) hx hb dX10_result_25 rfl (fun c25 => ?_) (fun c25 => ?_)
      · have h := br_p c25 h
        refine lv_iload_n hx hb dX10_result_31 rfl (lv_at hl 1 rfl) ?_
        refine lv_iconst (v := 3) hx hb dX10_result_32 rfl ?_
        refine lv_imul hx hb dX10_result_33 ?_
        refine lv_topi (fun v3 ev3 => ?_)
        have h := lt_at ev3 h
        refine lv_istore_n (lv' := [(3, .int v3), (0, .ref (q 0)), (1, .int p0), (2, .int p1)]) hx hb dX10_result_34 rfl hl (by decide) rfl (fun ls hl => ?_)
        refine lv_aload_n hx hb dX10_result_35 rfl (lv_at hl 1 rfl) ?_
        refine gf_X10_46_X_0 X hP dX10_result_36 ?_
        refine lv_aload_n hx hb dX10_result_39 rfl (lv_at hl 1 rfl) ?_
        refine gf_X10_60_X_0 X hP dX10_result_40 ?_
        refine gf_X10_260_X_24 X hP dX10_result_43 ?_
        refine lv_iload_n hx hb dX10_result_46 rfl (lv_at hl 2 rfl) ?_
        obtain ⟨hi47, h⟩ := gv_of h
        refine al_X_25 X hP hi47 dX10_result_47 ?_
        refine lv_aload_n hx hb dX10_result_48 rfl (lv_at hl 1 rfl) ?_
        refine gf_X10_60_X_0 X hP dX10_result_49 ?_
        refine gf_X10_284_X_24 X hP dX10_result_52 ?_
        refine lv_iload_n hx hb dX10_result_55 rfl (lv_at hl 0 rfl) ?_
        obtain ⟨hi56, h⟩ := gv_of h
        refine al_X_26 X hP hi56 dX10_result_56 ?_
        refine lv_i2l hx hb dX10_result_57 rfl ?_
        refine lv_aload_n hx hb dX10_result_58 rfl (lv_at hl 1 rfl) ?_
        refine gf_X10_60_X_0 X hP dX10_result_59 ?_
        refine gf_X10_284_X_24 X hP dX10_result_62 ?_
        refine lv_iload_n hx hb dX10_result_65 rfl (lv_at hl 0 rfl) ?_
        refine lv_iconst (v := 1) hx hb dX10_result_66 rfl ?_
        refine lv_iadd hx hb dX10_result_67 ?_
        obtain ⟨hi68, h⟩ := gv_of h
        refine al_X_26 X hP hi68 dX10_result_68 ?_
        refine lv_i2l hx hb dX10_result_69 rfl ?_
        refine lv_aload_n hx hb dX10_result_70 rfl (lv_at hl 1 rfl) ?_
        refine gf_X10_60_X_0 X hP dX10_result_71 ?_
        refine gf_X10_284_X_24 X hP dX10_result_74 ?_
        refine lv_iload_n hx hb dX10_result_77 rfl (lv_at hl 0 rfl) ?_
        refine lv_iconst (v := 2) hx hb dX10_result_78 rfl ?_
        refine lv_iadd hx hb dX10_result_79 ?_
        obtain ⟨hi80, h⟩ := gv_of h
        refine al_X_26 X hP hi80 dX10_result_80 ?_
        refine lv_i2l hx hb dX10_result_81 rfl ?_
        obtain ⟨o4, hco4, h⟩ := bd_of h
        obtain ⟨hF, hFA⟩ := fo_X_Turner_16 hP
        refine kVN (rest := []) X dX10_result_82 wd_3_149 mw_X7_solve wd_3_151 wp_3_9 hF (k0 := 0) rfl rfl rfl hS hFA (c_X7_solve hco4) rfl hl.1 rfl (Nat.le_of_ble_eq_true rfl) rfl rfl ⟨Nat.le_of_ble_eq_true rfl, Nat.le_of_ble_eq_true rfl⟩ (fun H locs hF1 _ hk hS => ?_)
        have hP := un_X_Turner_16 hP hk hF1
        refine W.eq (g2 := F0 m 85 ls [.int (bI o4.1)]) rfl ?_
        refine lv_pop hx hb dX10_result_85 rfl ?_
        refine lv_aload_n hx hb dX10_result_86 rfl (lv_at hl 1 rfl) ?_
        refine gf_X10_46_X_0 X hP dX10_result_87 ?_
        refine lv_iload_n hx hb dX10_result_90 rfl (lv_at hl 3 rfl) ?_
        obtain ⟨o5, hco5, h⟩ := bd_of h
        obtain ⟨hF, hFA⟩ := fo_X_Turner_16 hP
        refine kVN (rest := []) X dX10_result_91 wd_4_9 mw_X7_answer wd_4_11 wp_4_10 hF (k0 := 0) rfl rfl rfl hS hFA (c_X7_answer hco5) rfl hl.1 rfl (Nat.le_of_ble_eq_true rfl) rfl rfl ⟨Nat.le_of_ble_eq_true rfl, Nat.le_of_ble_eq_true rfl⟩ (fun H locs hF1 _ hk hS => ?_)
        have hP := un_X_Turner_16 hP hk hF1
        refine W.eq (g2 := F0 m 94 ls [.long o5]) rfl ?_
        refine lv_l2i hx hb dX10_result_94 rfl ?_
        exact ret h hP hS dX10_result_95
      · have h := br_n c25 h
        exact b28   r_x r_y r_z r_upBits r_steps r_first r_second _ _ _ h hP hS (lv_sub hl [] rfl)
abbrev rm_X10_hasBegun : Room := { frames := 1, cells := 0, slots := 0, locals := 21 }
set_option maxRecDepth 100000 in
set_option maxHeartbeats 4000000 in
theorem c_X10_hasBegun {g : gT} {l : Launch} {A : Nat → Prop} {q : Nat → Nat} {z_hasUnit : Bool} {z_hasImage : Bool} {t_length : Int32} {t_bytes : Nat → Int32} {x_width : Int32} {x_guard : Int32} {x_stages : Int32} {x_fold : Int32} {x_pipe : Bool} {x_near : Bool} {s_at : Int32} {o_lines : Int32} {n_at : Int32} {o_kinds : Nat → Int32} {o_operands : Nat → Int32} {o_ties : Nat → Int32} {u_width : Int32} {u_guard : Int32} {u_bits : Int32} {u_stages : Int32} {u_places : Int32} {u_near : Bool} {u_quarter : Int64} {u_eighth : Int64} {u_ln : Int64} {u_shifts : Nat → Int32} {u_angles : Nat → Int64} {u_gains : Nat → Int64} {u_undos : Nat → Int64} {u_digits : Nat → Int32} {r_x : Int64} {r_y : Int64} {r_z : Int64} {r_upBits : Int32} {r_steps : Int32} {r_first : Int64} {r_second : Int64} {v_width : Int32} {v_guard : Int32} {v_bits : Int32} {v_stages : Int32} {v_places : Int32} {v_near : Bool} {v_quarter : Int64} {v_eighth : Int64} {v_ln : Int64} {v_shifts : Nat → Int32} {v_angles : Nat → Int64} {v_gains : Nat → Int64} {v_undos : Nat → Int64} {v_digits : Nat → Int32} {k_x : Int64} {k_y : Int64} {k_z : Int64} {k_upBits : Int32} {k_steps : Int32} {k_first : Int64} {k_second : Int64} {b_jobs : Int32} {b_over : Int32} {b_clocks : Int32} {b_held : Bool} {b_kinds : Nat → Int32} {b_operands : Nat → Int32} {b_ties : Nat → Int32} {b_states : Nat → Int32} {b_gone : Nat → Int32} {b_toldIn : Nat → Int32} {b_broughtIn : Nat → Int32} {b_doneIn : Nat → Int32} {c_jobs : Int32} {c_over : Int32} {c_clocks : Int32} {c_held : Bool} {c_kinds : Nat → Int32} {c_operands : Nat → Int32} {c_ties : Nat → Int32} {c_states : Nat → Int32} {c_gone : Nat → Int32} {c_toldIn : Nat → Int32} {c_broughtIn : Nat → Int32} {c_doneIn : Nat → Int32} {d_jobs : Int32} {d_over : Int32} {d_clocks : Int32} {d_held : Bool} {d_kinds : Nat → Int32} {d_operands : Nat → Int32} {d_ties : Nat → Int32} {d_states : Nat → Int32} {d_gone : Nat → Int32} {d_toldIn : Nat → Int32} {d_broughtIn : Nat → Int32} {d_doneIn : Nat → Int32} {z_refusals : Nat → Int32} {p0 : Int32} {o : Bool} (h : f_X10_hasBegun p0 z_hasUnit b_jobs b_states = some o) : Std g l yX10_hasBegun (.code yX10_hasBegun cX10_hasBegun 2 (some .boolean) :: gw) rm_X10_hasBegun A [.ref (q 0), .int p0] (wX g q z_hasUnit z_hasImage t_length t_bytes x_width x_guard x_stages x_fold x_pipe x_near s_at o_lines n_at o_kinds o_operands o_ties u_width u_guard u_bits u_stages u_places u_near u_quarter u_eighth u_ln u_shifts u_angles u_gains u_undos u_digits r_x r_y r_z r_upBits r_steps r_first r_second v_width v_guard v_bits v_stages v_places v_near v_quarter v_eighth v_ln v_shifts v_angles v_gains v_undos v_digits k_x k_y k_z k_upBits k_steps k_first k_second b_jobs b_over b_clocks b_held b_kinds b_operands b_ties b_states b_gone b_toldIn b_broughtIn b_doneIn c_jobs c_over c_clocks c_held c_kinds c_operands c_ties c_states c_gone c_toldIn c_broughtIn c_doneIn d_jobs d_over d_clocks d_held d_kinds d_operands d_ties d_states d_gone d_toldIn d_broughtIn d_doneIn z_refusals) (wX g q z_hasUnit z_hasImage t_length t_bytes x_width x_guard x_stages x_fold x_pipe x_near s_at o_lines n_at o_kinds o_operands o_ties u_width u_guard u_bits u_stages u_places u_near u_quarter u_eighth u_ln u_shifts u_angles u_gains u_undos u_digits r_x r_y r_z r_upBits r_steps r_first r_second v_width v_guard v_bits v_stages v_places v_near v_quarter v_eighth v_ln v_shifts v_angles v_gains v_undos v_digits k_x k_y k_z k_upBits k_steps k_first k_second b_jobs b_over b_clocks b_held b_kinds b_operands b_ties b_states b_gone b_toldIn b_broughtIn b_doneIn c_jobs c_over c_clocks c_held c_kinds c_operands c_ties c_states c_gone c_toldIn c_broughtIn c_doneIn d_jobs d_over d_clocks d_held d_kinds d_operands d_ties d_states d_gone d_toldIn d_broughtIn d_doneIn z_refusals) (some (.int (bI o))) := by
  refine std_z (own := RX10) (by decide +kernel) rfl (Nat.le_of_ble_eq_true rfl) ?_
  intro p e s m args below meth c Q X ret H locs hP hS ls hl
  have hx := X.1
  have hb := X.2.1
  have hl : lv_has ls 2 [(0, .ref (q 0)), (1, .int p0)] := hl
  have ret : ∀ {H : Heap} {locs : List Loc} {pc : Nat} {ls : Array Slot} {v : Bool} , some (v) = some o → WP g A (wX g q z_hasUnit z_hasImage t_length t_bytes x_width x_guard x_stages x_fold x_pipe x_near s_at o_lines n_at o_kinds o_operands o_ties u_width u_guard u_bits u_stages u_places u_near u_quarter u_eighth u_ln u_shifts u_angles u_gains u_undos u_digits r_x r_y r_z r_upBits r_steps r_first r_second v_width v_guard v_bits v_stages v_places v_near v_quarter v_eighth v_ln v_shifts v_angles v_gains v_undos v_digits k_x k_y k_z k_upBits k_steps k_first k_second b_jobs b_over b_clocks b_held b_kinds b_operands b_ties b_states b_gone b_toldIn b_broughtIn b_doneIn c_jobs c_over c_clocks c_held c_kinds c_operands c_ties c_states c_gone c_toldIn c_broughtIn c_doneIn d_jobs d_over d_clocks d_held d_kinds d_operands d_ties d_states d_gone d_toldIn d_broughtIn d_doneIn z_refusals) H → va_S A s.heap H locs → decode cX10_hasBegun pc = .ok (.ireturn, 1) → W p l e rm_X10_hasBegun s m args below meth c H locs 0 0 Q (F0 m pc ls [.int (bI v)]) := by
    intro H locs pc ls v h hP hS hd
    cases h
    exact ret hP hS hd
  have b38 : ∀  (H : Heap) (locs : List Loc) (ls : Array Slot), f_X10_hasBegun_b38  z_hasUnit b_jobs b_states   = some o → WP g A (wX g q z_hasUnit z_hasImage t_length t_bytes x_width x_guard x_stages x_fold x_pipe x_near s_at o_lines n_at o_kinds o_operands o_ties u_width u_guard u_bits u_stages u_places u_near u_quarter u_eighth u_ln u_shifts u_angles u_gains u_undos u_digits r_x r_y r_z r_upBits r_steps r_first r_second v_width v_guard v_bits v_stages v_places v_near v_quarter v_eighth v_ln v_shifts v_angles v_gains v_undos v_digits k_x k_y k_z k_upBits k_steps k_first k_second b_jobs b_over b_clocks b_held b_kinds b_operands b_ties b_states b_gone b_toldIn b_broughtIn b_doneIn c_jobs c_over c_clocks c_held c_kinds c_operands c_ties c_states c_gone c_toldIn c_broughtIn c_doneIn d_jobs d_over d_clocks d_held d_kinds d_operands d_ties d_states d_gone d_toldIn d_broughtIn d_doneIn z_refusals) H → va_S A s.heap H locs → lv_has ls 2 [] → W p l e rm_X10_hasBegun s m args below meth c H locs 0 0 Q (F0 m 38 ls []) := by
    intro   H locs ls h hP hS hl
    unfold f_X10_hasBegun_b38 at h
    refine lv_iconst (v := 0) hx hb dX10_hasBegun_38 rfl ?_
    exact ret h hP hS dX10_hasBegun_39
  have b34 : ∀  (H : Heap) (locs : List Loc) (ls : Array Slot), f_X10_hasBegun_b34  z_hasUnit b_jobs b_states   = some o → WP g A (wX g q z_hasUnit z_hasImage t_length t_bytes x_width x_guard x_stages x_fold x_pipe x_near s_at o_lines n_at o_kinds o_operands o_ties u_width u_guard u_bits u_stages u_places u_near u_quarter u_eighth u_ln u_shifts u_angles u_gains u_undos u_digits r_x r_y r_z r_upBits r_steps r_first r_second v_width v_guard v_bits v_stages v_places v_near v_quarter v_eighth v_ln v_shifts v_angles v_gains v_undos v_digits k_x k_y k_z k_upBits k_steps k_first k_second b_jobs b_over b_clocks b_held b_kinds b_operands b_ties b_states b_gone b_toldIn b_broughtIn b_doneIn c_jobs c_over c_clocks c_held c_kinds c_operands c_ties c_states c_gone c_toldIn c_broughtIn c_doneIn d_jobs d_over d_clocks d_held d_kinds d_operands d_ties d_states d_gone d_toldIn d_broughtIn d_doneIn z_refusals) H → va_S A s.heap H locs → lv_has ls 2 [] → W p l e rm_X10_hasBegun s m args below meth c H locs 0 0 Q (F0 m 34 ls []) := by
    intro   H locs ls h hP hS hl
    unfold f_X10_hasBegun_b34 at h
    refine lv_iconst (v := 1) hx hb dX10_hasBegun_34 rfl ?_
    refine lv_goto (tgt := 39) hx hb dX10_hasBegun_35 rfl ?_
    exact ret h hP hS dX10_hasBegun_39
  unfold f_X10_hasBegun at h
  refine lv_aload_n hx hb dX10_hasBegun_0 rfl (lv_at hl 0 rfl) ?_
  refine lv_iload_n hx hb dX10_hasBegun_1 rfl (lv_at hl 1 rfl) ?_
  obtain ⟨o1, hco1, h⟩ := bd_of h
  refine kV (rest := []) X dX10_hasBegun_2 wd_4_64 mw_X10_isJob wd_4_66 wp_5_3 hP (k0 := 0) rfl rfl rfl hS (fun _ z => z) (c_X10_isJob hco1) rfl hl.1 rfl (Nat.le_of_ble_eq_true rfl) rfl rfl ⟨Nat.le_of_ble_eq_true rfl, Nat.le_of_ble_eq_true rfl⟩ (fun H locs hP _ _ hS => ?_)
  refine W.eq (g2 := F0 m 5 ls [.int (bI o1)]) rfl ?_
  refine rb_eq (tgt := 38) hx hb dX10_hasBegun_5 rfl (fun c5 => ?_) (fun c5 => ?_)
  · have h := br_n c5 h
    exact b38    _ _ _ h hP hS (lv_sub hl [] rfl)
  · have h := br_p c5 h
    refine lv_aload_n hx hb dX10_hasBegun_8 rfl (lv_at hl 0 rfl) ?_
    refine gf_X10_60_X_0 X hP dX10_hasBegun_9 ?_
    refine gf_X10_233_X_24 X hP dX10_hasBegun_12 ?_
    refine lv_iload_n hx hb dX10_hasBegun_15 rfl (lv_at hl 1 rfl) ?_
    obtain ⟨hi16, h⟩ := gv_of h
    refine al_X_28 X hP hi16 dX10_hasBegun_16 ?_
    refine lv_iconst (v := 1) hx hb dX10_hasBegun_17 rfl ?_
    refine lv_icmp_eq (tgt := 34) hx hb dX10_hasBegun_18 rfl (fun c18 => ?_) (fun c18 => ?_)
    · have h := br_p c18 h
      exact b34    _ _ _ h hP hS (lv_sub hl [] rfl)
    · have h := br_n c18 h
      refine lv_aload_n hx hb dX10_hasBegun_21 rfl (lv_at hl 0 rfl) ?_
      refine gf_X10_60_X_0 X hP dX10_hasBegun_22 ?_
      refine gf_X10_233_X_24 X hP dX10_hasBegun_25 ?_
      refine lv_iload_n hx hb dX10_hasBegun_28 rfl (lv_at hl 1 rfl) ?_
      obtain ⟨hi29, h⟩ := gv_of h
      refine al_X_28 X hP hi29 dX10_hasBegun_29 ?_
      refine lv_iconst (v := 2) hx hb dX10_hasBegun_30 rfl ?_
      refine jx1 h (P := fun (v2 : Bool) => ∀ ls : Array Slot, lv_has ls 2 [] → W p l e rm_X10_hasBegun s m args below meth c H locs 0 0 Q (F0 m 39 ls [.int (bI v2)])) ?_ ?_
      · intro v2 h ls hl
        exact ret h hP hS dX10_hasBegun_39
      · intro J h
        refine lv_icmp_ne (tgt := 38) hx hb dX10_hasBegun_31 rfl (fun c31 => ?_) (fun c31 => ?_)
        · refine lv_iconst (v := 0) hx hb dX10_hasBegun_38 rfl ?_
          exact J _ (lt_in c31 h) ls (lv_sub hl [] rfl)
        · refine lv_iconst (v := 1) hx hb dX10_hasBegun_34 rfl ?_
          refine lv_goto (tgt := 39) hx hb dX10_hasBegun_35 rfl ?_
          exact J _ (lt_ip c31 h) ls (lv_sub hl [] rfl)
abbrev rm_X10_trace : Room := { frames := 5, cells := 0, slots := 0, locals := 131 }
set_option maxRecDepth 100000 in
set_option maxHeartbeats 4000000 in
theorem c_X10_trace {g : gT} {l : Launch} {A : Nat → Prop} {q : Nat → Nat} {z_hasUnit : Bool} {z_hasImage : Bool} {t_length : Int32} {t_bytes : Nat → Int32} {x_width : Int32} {x_guard : Int32} {x_stages : Int32} {x_fold : Int32} {x_pipe : Bool} {x_near : Bool} {s_at : Int32} {o_lines : Int32} {n_at : Int32} {o_kinds : Nat → Int32} {o_operands : Nat → Int32} {o_ties : Nat → Int32} {u_width : Int32} {u_guard : Int32} {u_bits : Int32} {u_stages : Int32} {u_places : Int32} {u_near : Bool} {u_quarter : Int64} {u_eighth : Int64} {u_ln : Int64} {u_shifts : Nat → Int32} {u_angles : Nat → Int64} {u_gains : Nat → Int64} {u_undos : Nat → Int64} {u_digits : Nat → Int32} {r_x : Int64} {r_y : Int64} {r_z : Int64} {r_upBits : Int32} {r_steps : Int32} {r_first : Int64} {r_second : Int64} {v_width : Int32} {v_guard : Int32} {v_bits : Int32} {v_stages : Int32} {v_places : Int32} {v_near : Bool} {v_quarter : Int64} {v_eighth : Int64} {v_ln : Int64} {v_shifts : Nat → Int32} {v_angles : Nat → Int64} {v_gains : Nat → Int64} {v_undos : Nat → Int64} {v_digits : Nat → Int32} {k_x : Int64} {k_y : Int64} {k_z : Int64} {k_upBits : Int32} {k_steps : Int32} {k_first : Int64} {k_second : Int64} {b_jobs : Int32} {b_over : Int32} {b_clocks : Int32} {b_held : Bool} {b_kinds : Nat → Int32} {b_operands : Nat → Int32} {b_ties : Nat → Int32} {b_states : Nat → Int32} {b_gone : Nat → Int32} {b_toldIn : Nat → Int32} {b_broughtIn : Nat → Int32} {b_doneIn : Nat → Int32} {c_jobs : Int32} {c_over : Int32} {c_clocks : Int32} {c_held : Bool} {c_kinds : Nat → Int32} {c_operands : Nat → Int32} {c_ties : Nat → Int32} {c_states : Nat → Int32} {c_gone : Nat → Int32} {c_toldIn : Nat → Int32} {c_broughtIn : Nat → Int32} {c_doneIn : Nat → Int32} {d_jobs : Int32} {d_over : Int32} {d_clocks : Int32} {d_held : Bool} {d_kinds : Nat → Int32} {d_operands : Nat → Int32} {d_ties : Nat → Int32} {d_states : Nat → Int32} {d_gone : Nat → Int32} {d_toldIn : Nat → Int32} {d_broughtIn : Nat → Int32} {d_doneIn : Nat → Int32} {z_refusals : Nat → Int32} {p0 : Int32} {p1 : Int32} {p2 : Int32} {o : Int64 × Int64 × Int64 × Int64 × Int32 × Int32 × Int64 × Int64} (h : f_X10_trace p0 p1 p2 z_hasUnit u_guard u_bits u_near u_quarter u_ln u_shifts u_angles u_undos r_x r_y r_z r_upBits r_steps r_first r_second b_jobs b_kinds b_operands b_states b_gone = some o) : Std g l yX10_trace (.code yX10_trace cX10_trace 4 (some .long) :: gw) rm_X10_trace A [.ref (q 0), .int p0, .int p1, .int p2] (wX g q z_hasUnit z_hasImage t_length t_bytes x_width x_guard x_stages x_fold x_pipe x_near s_at o_lines n_at o_kinds o_operands o_ties u_width u_guard u_bits u_stages u_places u_near u_quarter u_eighth u_ln u_shifts u_angles u_gains u_undos u_digits r_x r_y r_z r_upBits r_steps r_first r_second v_width v_guard v_bits v_stages v_places v_near v_quarter v_eighth v_ln v_shifts v_angles v_gains v_undos v_digits k_x k_y k_z k_upBits k_steps k_first k_second b_jobs b_over b_clocks b_held b_kinds b_operands b_ties b_states b_gone b_toldIn b_broughtIn b_doneIn c_jobs c_over c_clocks c_held c_kinds c_operands c_ties c_states c_gone c_toldIn c_broughtIn c_doneIn d_jobs d_over d_clocks d_held d_kinds d_operands d_ties d_states d_gone d_toldIn d_broughtIn d_doneIn z_refusals) (wX g q z_hasUnit z_hasImage t_length t_bytes x_width x_guard x_stages x_fold x_pipe x_near s_at o_lines n_at o_kinds o_operands o_ties u_width u_guard u_bits u_stages u_places u_near u_quarter u_eighth u_ln u_shifts u_angles u_gains u_undos u_digits o.2.1 o.2.2.1 o.2.2.2.1 o.2.2.2.2.1 o.2.2.2.2.2.1 o.2.2.2.2.2.2.1 o.2.2.2.2.2.2.2 v_width v_guard v_bits v_stages v_places v_near v_quarter v_eighth v_ln v_shifts v_angles v_gains v_undos v_digits k_x k_y k_z k_upBits k_steps k_first k_second b_jobs b_over b_clocks b_held b_kinds b_operands b_ties b_states b_gone b_toldIn b_broughtIn b_doneIn c_jobs c_over c_clocks c_held c_kinds c_operands c_ties c_states c_gone c_toldIn c_broughtIn c_doneIn d_jobs d_over d_clocks d_held d_kinds d_operands d_ties d_states d_gone d_toldIn d_broughtIn d_doneIn z_refusals) (some (.long o.1)) := by
  refine std_l (own := RX10) (by decide +kernel) rfl (Nat.le_of_ble_eq_true rfl) ?_
  intro p e s m args below meth c Q X ret H locs hP hS ls hl
  have hx := X.1
  have hb := X.2.1
  have hl : lv_has ls 4 [(0, .ref (q 0)), (1, .int p0), (2, .int p1), (3, .int p2)] := hl
  have ret : ∀ {H : Heap} {locs : List Loc} {pc : Nat} {ls : Array Slot} {v : Int64} {r_x : Int64} {r_y : Int64} {r_z : Int64} {r_upBits : Int32} {r_steps : Int32} {r_first : Int64} {r_second : Int64}, some (v, r_x, r_y, r_z, r_upBits, r_steps, r_first, r_second) = some o → WP g A (wX g q z_hasUnit z_hasImage t_length t_bytes x_width x_guard x_stages x_fold x_pipe x_near s_at o_lines n_at o_kinds o_operands o_ties u_width u_guard u_bits u_stages u_places u_near u_quarter u_eighth u_ln u_shifts u_angles u_gains u_undos u_digits r_x r_y r_z r_upBits r_steps r_first r_second v_width v_guard v_bits v_stages v_places v_near v_quarter v_eighth v_ln v_shifts v_angles v_gains v_undos v_digits k_x k_y k_z k_upBits k_steps k_first k_second b_jobs b_over b_clocks b_held b_kinds b_operands b_ties b_states b_gone b_toldIn b_broughtIn b_doneIn c_jobs c_over c_clocks c_held c_kinds c_operands c_ties c_states c_gone c_toldIn c_broughtIn c_doneIn d_jobs d_over d_clocks d_held d_kinds d_operands d_ties d_states d_gone d_toldIn d_broughtIn d_doneIn z_refusals) H → va_S A s.heap H locs → decode cX10_trace pc = .ok (.lreturn, 1) → W p l e rm_X10_trace s m args below meth c H locs 0 0 Q (F0 m pc ls [.long v]) := by
    intro H locs pc ls v r_x r_y r_z r_upBits r_steps r_first r_second h hP hS hd
    cases h
    exact ret hP hS hd
  have b34 : ∀ (r_x : Int64) (r_y : Int64) (r_z : Int64) (r_upBits : Int32) (r_steps : Int32) (r_first : Int64) (r_second : Int64) (H : Heap) (locs : List Loc) (ls : Array Slot), f_X10_trace_b34  z_hasUnit u_guard u_bits u_near u_quarter u_ln u_shifts u_angles u_undos b_jobs b_kinds b_operands b_states b_gone  r_x r_y r_z r_upBits r_steps r_first r_second = some o → WP g A (wX g q z_hasUnit z_hasImage t_length t_bytes x_width x_guard x_stages x_fold x_pipe x_near s_at o_lines n_at o_kinds o_operands o_ties u_width u_guard u_bits u_stages u_places u_near u_quarter u_eighth u_ln u_shifts u_angles u_gains u_undos u_digits r_x r_y r_z r_upBits r_steps r_first r_second v_width v_guard v_bits v_stages v_places v_near v_quarter v_eighth v_ln v_shifts v_angles v_gains v_undos v_digits k_x k_y k_z k_upBits k_steps k_first k_second b_jobs b_over b_clocks b_held b_kinds b_operands b_ties b_states b_gone b_toldIn b_broughtIn b_doneIn c_jobs c_over c_clocks c_held c_kinds c_operands c_ties c_states c_gone c_toldIn c_broughtIn c_doneIn d_jobs d_over d_clocks d_held d_kinds d_operands d_ties d_states d_gone d_toldIn d_broughtIn d_doneIn z_refusals) H → va_S A s.heap H locs → lv_has ls 4 [] → W p l e rm_X10_trace s m args below meth c H locs 0 0 Q (F0 m 34 ls []) := by
    intro  r_x r_y r_z r_upBits r_steps r_first r_second H locs ls h hP hS hl
    unfold f_X10_trace_b34 at h
    refine lv_ldc2 (v := (-9223372036854775808)) hx hb X.2.2.2.1 (X.2.2.2.2.1 _ wd_4_138) dX10_trace_34 ?_
    exact ret h hP hS dX10_trace_37
  unfold f_X10_trace at h
  refine lv_aload_n hx hb dX10_trace_0 rfl (lv_at hl 0 rfl) ?_
  refine lv_iload_n hx hb dX10_trace_1 rfl (lv_at hl 1 rfl) ?_
  obtain ⟨o1, hco1, h⟩ := bd_of h
  refine kV (rest := []) X dX10_trace_2 wd_4_134 mw_X10_hasBegun wd_4_136 wp_5_13 hP (k0 := 0) rfl rfl rfl hS (fun _ z => z) (c_X10_hasBegun hco1) rfl hl.1 rfl (Nat.le_of_ble_eq_true rfl) rfl rfl ⟨Nat.le_of_ble_eq_true rfl, Nat.le_of_ble_eq_true rfl⟩ (fun H locs hP _ _ hS => ?_)
  refine W.eq (g2 := F0 m 5 ls [.int (bI o1)]) rfl ?_
  refine rb_eq (tgt := 34) hx hb dX10_trace_5 rfl (fun c5 => ?_) (fun c5 => ?_)
  · have h := br_n c5 h
    exact b34   r_x r_y r_z r_upBits r_steps r_first r_second _ _ _ h hP hS (lv_sub hl [] rfl)
  · have h := br_p c5 h
    refine lv_iload_n hx hb dX10_trace_8 rfl (lv_at hl 2 rfl) ?_
    refine lv_if_lt (tgt := 34) hx hb dX10_trace_9 rfl (fun c9 => ?_) (fun c9 => ?_)
    · have h := br_p c9 h
      exact b34   r_x r_y r_z r_upBits r_steps r_first r_second _ _ _ h hP hS (lv_sub hl [] rfl)
    · have h := br_n c9 h
      refine lv_iload_n hx hb dX10_trace_12 rfl (lv_at hl 2 rfl) ?_
      refine lv_aload_n hx hb dX10_trace_13 rfl (lv_at hl 0 rfl) ?_
      refine gf_X10_60_X_0 X hP dX10_trace_14 ?_
      refine gf_X10_263_X_24 X hP dX10_trace_17 ?_
      refine lv_iload_n hx hb dX10_trace_20 rfl (lv_at hl 1 rfl) ?_
      obtain ⟨hi21, h⟩ := gv_of h
      refine al_X_29 X hP hi21 dX10_trace_21 ?_
      refine lv_icmp_gt (tgt := 34) hx hb dX10_trace_22 rfl (fun c22 => ?_) (fun c22 => ?_)
      · have h := br_p c22 h
        exact b34   r_x r_y r_z r_upBits r_steps r_first r_second _ _ _ h hP hS (lv_sub hl [] rfl)
      · have h := br_n c22 h
        refine lv_iload_n hx hb dX10_trace_25 rfl (lv_at hl 3 rfl) ?_
        refine lv_if_lt (tgt := 34) hx hb dX10_trace_26 rfl (fun c26 => ?_) (fun c26 => ?_)
        · have h := br_p c26 h
          exact b34   r_x r_y r_z r_upBits r_steps r_first r_second _ _ _ h hP hS (lv_sub hl [] rfl)
        · have h := br_n c26 h
          refine lv_iload_n hx hb dX10_trace_29 rfl (lv_at hl 3 rfl) ?_
          refine lv_iconst (v := 2) hx hb dX10_trace_30 rfl ?_
          refine lv_icmp_le (tgt := 38) hx hb dX10_trace_31 rfl (fun c31 => ?_) (fun c31 => ?_)
          · have h := br_p c31 h
            refine lv_aload_n hx hb dX10_trace_38 rfl (lv_at hl 0 rfl) ?_
            refine gf_X10_60_X_0 X hP dX10_trace_39 ?_
            refine lv_iload_n hx hb dX10_trace_42 rfl (lv_at hl 1 rfl) ?_
            refine lv_aload_n hx hb dX10_trace_43 rfl (lv_at hl 0 rfl) ?_
            refine gf_X10_46_X_0 X hP dX10_trace_44 ?_
            refine lv_iload_n hx hb dX10_trace_47 rfl (lv_at hl 2 rfl) ?_
            obtain ⟨o2, hco2, h⟩ := bd_of h
            obtain ⟨hF, hFA⟩ := fo_X_BT_24_16 hP
            refine kVN (rest := []) X dX10_trace_48 wd_4_139 mw_X1_turnAgain wd_4_141 wp_5_14 hF (k0 := 0) rfl rfl rfl hS hFA (c_X1_turnAgain hco2) rfl hl.1 rfl (Nat.le_of_ble_eq_true rfl) rfl rfl ⟨Nat.le_of_ble_eq_true rfl, Nat.le_of_ble_eq_true rfl⟩ (fun H locs hF1 _ hk hS => ?_)
            have hP := un_X_BT_24_16 hP hk hF1
            refine W.eq (g2 := F0 m 51 ls []) rfl ?_
            refine lv_iload_n hx hb dX10_trace_51 rfl (lv_at hl 3 rfl) ?_
            refine lv_if_ne (tgt := 63) hx hb dX10_trace_52 rfl (fun c52 => ?_) (fun c52 => ?_)
            · have h := br_n c52 h
              refine lv_iload_n hx hb dX10_trace_63 rfl (lv_at hl 3 rfl) ?_
              refine lv_iconst (v := 1) hx hb dX10_trace_64 rfl ?_
              refine jx1 h (P := fun (v3 : Int64) => ∀ ls : Array Slot, lv_has ls 4 [] → W p l e rm_X10_trace s m args below meth c H locs 0 0 Q (F0 m 85 ls [.long v3])) ?_ ?_
              · intro v3 h ls hl
                exact ret h hP hS dX10_trace_85
              · intro J h
                refine lv_icmp_ne (tgt := 78) hx hb dX10_trace_65 rfl (fun c65 => ?_) (fun c65 => ?_)
                · refine lv_aload_n hx hb dX10_trace_78 rfl (lv_at hl 0 rfl) ?_
                  refine gf_X10_46_X_0 X hP dX10_trace_79 ?_
                  refine gf_X10_304_X_16 X hP dX10_trace_82 ?_
                  exact J _ (lt_in c65 h) ls (lv_sub hl [] rfl)
                · refine lv_aload_n hx hb dX10_trace_68 rfl (lv_at hl 0 rfl) ?_
                  refine gf_X10_46_X_0 X hP dX10_trace_69 ?_
                  refine gf_X10_301_X_16 X hP dX10_trace_72 ?_
                  refine lv_goto (tgt := 85) hx hb dX10_trace_75 rfl ?_
                  exact J _ (lt_ip c65 h) ls (lv_sub hl [] rfl)
            · have h := br_p c52 h
              refine lv_aload_n hx hb dX10_trace_55 rfl (lv_at hl 0 rfl) ?_
              refine gf_X10_46_X_0 X hP dX10_trace_56 ?_
              refine gf_X10_298_X_16 X hP dX10_trace_59 ?_
              exact ret h hP hS dX10_trace_62
          · have h := br_n c31 h
            exact b34   r_x r_y r_z r_upBits r_steps r_first r_second _ _ _ h hP hS (lv_sub hl [] rfl)
abbrev rm_X10_signs : Room := { frames := 5, cells := 0, slots := 0, locals := 131 }
set_option maxRecDepth 100000 in
set_option maxHeartbeats 4000000 in
theorem c_X10_signs {g : gT} {l : Launch} {A : Nat → Prop} {q : Nat → Nat} {z_hasUnit : Bool} {z_hasImage : Bool} {t_length : Int32} {t_bytes : Nat → Int32} {x_width : Int32} {x_guard : Int32} {x_stages : Int32} {x_fold : Int32} {x_pipe : Bool} {x_near : Bool} {s_at : Int32} {o_lines : Int32} {n_at : Int32} {o_kinds : Nat → Int32} {o_operands : Nat → Int32} {o_ties : Nat → Int32} {u_width : Int32} {u_guard : Int32} {u_bits : Int32} {u_stages : Int32} {u_places : Int32} {u_near : Bool} {u_quarter : Int64} {u_eighth : Int64} {u_ln : Int64} {u_shifts : Nat → Int32} {u_angles : Nat → Int64} {u_gains : Nat → Int64} {u_undos : Nat → Int64} {u_digits : Nat → Int32} {r_x : Int64} {r_y : Int64} {r_z : Int64} {r_upBits : Int32} {r_steps : Int32} {r_first : Int64} {r_second : Int64} {v_width : Int32} {v_guard : Int32} {v_bits : Int32} {v_stages : Int32} {v_places : Int32} {v_near : Bool} {v_quarter : Int64} {v_eighth : Int64} {v_ln : Int64} {v_shifts : Nat → Int32} {v_angles : Nat → Int64} {v_gains : Nat → Int64} {v_undos : Nat → Int64} {v_digits : Nat → Int32} {k_x : Int64} {k_y : Int64} {k_z : Int64} {k_upBits : Int32} {k_steps : Int32} {k_first : Int64} {k_second : Int64} {b_jobs : Int32} {b_over : Int32} {b_clocks : Int32} {b_held : Bool} {b_kinds : Nat → Int32} {b_operands : Nat → Int32} {b_ties : Nat → Int32} {b_states : Nat → Int32} {b_gone : Nat → Int32} {b_toldIn : Nat → Int32} {b_broughtIn : Nat → Int32} {b_doneIn : Nat → Int32} {c_jobs : Int32} {c_over : Int32} {c_clocks : Int32} {c_held : Bool} {c_kinds : Nat → Int32} {c_operands : Nat → Int32} {c_ties : Nat → Int32} {c_states : Nat → Int32} {c_gone : Nat → Int32} {c_toldIn : Nat → Int32} {c_broughtIn : Nat → Int32} {c_doneIn : Nat → Int32} {d_jobs : Int32} {d_over : Int32} {d_clocks : Int32} {d_held : Bool} {d_kinds : Nat → Int32} {d_operands : Nat → Int32} {d_ties : Nat → Int32} {d_states : Nat → Int32} {d_gone : Nat → Int32} {d_toldIn : Nat → Int32} {d_broughtIn : Nat → Int32} {d_doneIn : Nat → Int32} {z_refusals : Nat → Int32} {p0 : Int32} {o : Int32 × Int64 × Int64 × Int64 × Int32 × Int32 × Int64 × Int64} (h : f_X10_signs p0 z_hasUnit u_guard u_bits u_near u_quarter u_ln u_shifts u_angles u_undos r_x r_y r_z r_upBits r_steps r_first r_second b_jobs b_kinds b_operands b_states b_gone = some o) : Std g l yX10_signs (.code yX10_signs cX10_signs 2 (some .int) :: gw) rm_X10_signs A [.ref (q 0), .int p0] (wX g q z_hasUnit z_hasImage t_length t_bytes x_width x_guard x_stages x_fold x_pipe x_near s_at o_lines n_at o_kinds o_operands o_ties u_width u_guard u_bits u_stages u_places u_near u_quarter u_eighth u_ln u_shifts u_angles u_gains u_undos u_digits r_x r_y r_z r_upBits r_steps r_first r_second v_width v_guard v_bits v_stages v_places v_near v_quarter v_eighth v_ln v_shifts v_angles v_gains v_undos v_digits k_x k_y k_z k_upBits k_steps k_first k_second b_jobs b_over b_clocks b_held b_kinds b_operands b_ties b_states b_gone b_toldIn b_broughtIn b_doneIn c_jobs c_over c_clocks c_held c_kinds c_operands c_ties c_states c_gone c_toldIn c_broughtIn c_doneIn d_jobs d_over d_clocks d_held d_kinds d_operands d_ties d_states d_gone d_toldIn d_broughtIn d_doneIn z_refusals) (wX g q z_hasUnit z_hasImage t_length t_bytes x_width x_guard x_stages x_fold x_pipe x_near s_at o_lines n_at o_kinds o_operands o_ties u_width u_guard u_bits u_stages u_places u_near u_quarter u_eighth u_ln u_shifts u_angles u_gains u_undos u_digits o.2.1 o.2.2.1 o.2.2.2.1 o.2.2.2.2.1 o.2.2.2.2.2.1 o.2.2.2.2.2.2.1 o.2.2.2.2.2.2.2 v_width v_guard v_bits v_stages v_places v_near v_quarter v_eighth v_ln v_shifts v_angles v_gains v_undos v_digits k_x k_y k_z k_upBits k_steps k_first k_second b_jobs b_over b_clocks b_held b_kinds b_operands b_ties b_states b_gone b_toldIn b_broughtIn b_doneIn c_jobs c_over c_clocks c_held c_kinds c_operands c_ties c_states c_gone c_toldIn c_broughtIn c_doneIn d_jobs d_over d_clocks d_held d_kinds d_operands d_ties d_states d_gone d_toldIn d_broughtIn d_doneIn z_refusals) (some (.int o.1)) := by
  refine std_i (own := RX10) (by decide +kernel) rfl (Nat.le_of_ble_eq_true rfl) ?_
  intro p e s m args below meth c Q X ret H locs hP hS ls hl
  have hx := X.1
  have hb := X.2.1
  have hl : lv_has ls 2 [(0, .ref (q 0)), (1, .int p0)] := hl
  have ret : ∀ {H : Heap} {locs : List Loc} {pc : Nat} {ls : Array Slot} {v : Int32} {r_x : Int64} {r_y : Int64} {r_z : Int64} {r_upBits : Int32} {r_steps : Int32} {r_first : Int64} {r_second : Int64}, some (v, r_x, r_y, r_z, r_upBits, r_steps, r_first, r_second) = some o → WP g A (wX g q z_hasUnit z_hasImage t_length t_bytes x_width x_guard x_stages x_fold x_pipe x_near s_at o_lines n_at o_kinds o_operands o_ties u_width u_guard u_bits u_stages u_places u_near u_quarter u_eighth u_ln u_shifts u_angles u_gains u_undos u_digits r_x r_y r_z r_upBits r_steps r_first r_second v_width v_guard v_bits v_stages v_places v_near v_quarter v_eighth v_ln v_shifts v_angles v_gains v_undos v_digits k_x k_y k_z k_upBits k_steps k_first k_second b_jobs b_over b_clocks b_held b_kinds b_operands b_ties b_states b_gone b_toldIn b_broughtIn b_doneIn c_jobs c_over c_clocks c_held c_kinds c_operands c_ties c_states c_gone c_toldIn c_broughtIn c_doneIn d_jobs d_over d_clocks d_held d_kinds d_operands d_ties d_states d_gone d_toldIn d_broughtIn d_doneIn z_refusals) H → va_S A s.heap H locs → decode cX10_signs pc = .ok (.ireturn, 1) → W p l e rm_X10_signs s m args below meth c H locs 0 0 Q (F0 m pc ls [.int v]) := by
    intro H locs pc ls v r_x r_y r_z r_upBits r_steps r_first r_second h hP hS hd
    cases h
    exact ret hP hS hd
  unfold f_X10_signs at h
  refine lv_aload_n hx hb dX10_signs_0 rfl (lv_at hl 0 rfl) ?_
  refine lv_iload_n hx hb dX10_signs_1 rfl (lv_at hl 1 rfl) ?_
  obtain ⟨o1, hco1, h⟩ := bd_of h
  refine kV (rest := []) X dX10_signs_2 wd_4_134 mw_X10_hasBegun wd_4_136 wp_5_13 hP (k0 := 0) rfl rfl rfl hS (fun _ z => z) (c_X10_hasBegun hco1) rfl hl.1 rfl (Nat.le_of_ble_eq_true rfl) rfl rfl ⟨Nat.le_of_ble_eq_true rfl, Nat.le_of_ble_eq_true rfl⟩ (fun H locs hP _ _ hS => ?_)
  refine W.eq (g2 := F0 m 5 ls [.int (bI o1)]) rfl ?_
  refine rb_ne (tgt := 10) hx hb dX10_signs_5 rfl (fun c5 => ?_) (fun c5 => ?_)
  · have h := br_p c5 h
    refine lv_aload_n hx hb dX10_signs_10 rfl (lv_at hl 0 rfl) ?_
    refine gf_X10_60_X_0 X hP dX10_signs_11 ?_
    refine lv_iload_n hx hb dX10_signs_14 rfl (lv_at hl 1 rfl) ?_
    refine lv_aload_n hx hb dX10_signs_15 rfl (lv_at hl 0 rfl) ?_
    refine gf_X10_46_X_0 X hP dX10_signs_16 ?_
    refine lv_aload_n hx hb dX10_signs_19 rfl (lv_at hl 0 rfl) ?_
    refine gf_X10_60_X_0 X hP dX10_signs_20 ?_
    refine gf_X10_263_X_24 X hP dX10_signs_23 ?_
    refine lv_iload_n hx hb dX10_signs_26 rfl (lv_at hl 1 rfl) ?_
    obtain ⟨hi27, h⟩ := gv_of h
    refine al_X_29 X hP hi27 dX10_signs_27 ?_
    obtain ⟨o2, hco2, h⟩ := bd_of h
    obtain ⟨hF, hFA⟩ := fo_X_BT_24_16 hP
    refine kVN (rest := []) X dX10_signs_28 wd_4_139 mw_X1_turnAgain wd_4_141 wp_5_14 hF (k0 := 0) rfl rfl rfl hS hFA (c_X1_turnAgain hco2) rfl hl.1 rfl (Nat.le_of_ble_eq_true rfl) rfl rfl ⟨Nat.le_of_ble_eq_true rfl, Nat.le_of_ble_eq_true rfl⟩ (fun H locs hF1 _ hk hS => ?_)
    have hP := un_X_BT_24_16 hP hk hF1
    refine W.eq (g2 := F0 m 31 ls []) rfl ?_
    refine lv_aload_n hx hb dX10_signs_31 rfl (lv_at hl 0 rfl) ?_
    refine gf_X10_46_X_0 X hP dX10_signs_32 ?_
    refine gf_X10_307_X_16 X hP dX10_signs_35 ?_
    exact ret h hP hS dX10_signs_38
  · have h := br_n c5 h
    refine lv_iconst (v := (-1)) hx hb dX10_signs_8 rfl ?_
    exact ret h hP hS dX10_signs_9
abbrev rm_X10_register : Room := { frames := 1, cells := 0, slots := 0, locals := 22 }
set_option maxRecDepth 100000 in
set_option maxHeartbeats 4000000 in
theorem c_X10_register {g : gT} {l : Launch} {A : Nat → Prop} {q : Nat → Nat} {z_hasUnit : Bool} {z_hasImage : Bool} {t_length : Int32} {t_bytes : Nat → Int32} {x_width : Int32} {x_guard : Int32} {x_stages : Int32} {x_fold : Int32} {x_pipe : Bool} {x_near : Bool} {s_at : Int32} {o_lines : Int32} {n_at : Int32} {o_kinds : Nat → Int32} {o_operands : Nat → Int32} {o_ties : Nat → Int32} {u_width : Int32} {u_guard : Int32} {u_bits : Int32} {u_stages : Int32} {u_places : Int32} {u_near : Bool} {u_quarter : Int64} {u_eighth : Int64} {u_ln : Int64} {u_shifts : Nat → Int32} {u_angles : Nat → Int64} {u_gains : Nat → Int64} {u_undos : Nat → Int64} {u_digits : Nat → Int32} {r_x : Int64} {r_y : Int64} {r_z : Int64} {r_upBits : Int32} {r_steps : Int32} {r_first : Int64} {r_second : Int64} {v_width : Int32} {v_guard : Int32} {v_bits : Int32} {v_stages : Int32} {v_places : Int32} {v_near : Bool} {v_quarter : Int64} {v_eighth : Int64} {v_ln : Int64} {v_shifts : Nat → Int32} {v_angles : Nat → Int64} {v_gains : Nat → Int64} {v_undos : Nat → Int64} {v_digits : Nat → Int32} {k_x : Int64} {k_y : Int64} {k_z : Int64} {k_upBits : Int32} {k_steps : Int32} {k_first : Int64} {k_second : Int64} {b_jobs : Int32} {b_over : Int32} {b_clocks : Int32} {b_held : Bool} {b_kinds : Nat → Int32} {b_operands : Nat → Int32} {b_ties : Nat → Int32} {b_states : Nat → Int32} {b_gone : Nat → Int32} {b_toldIn : Nat → Int32} {b_broughtIn : Nat → Int32} {b_doneIn : Nat → Int32} {c_jobs : Int32} {c_over : Int32} {c_clocks : Int32} {c_held : Bool} {c_kinds : Nat → Int32} {c_operands : Nat → Int32} {c_ties : Nat → Int32} {c_states : Nat → Int32} {c_gone : Nat → Int32} {c_toldIn : Nat → Int32} {c_broughtIn : Nat → Int32} {c_doneIn : Nat → Int32} {d_jobs : Int32} {d_over : Int32} {d_clocks : Int32} {d_held : Bool} {d_kinds : Nat → Int32} {d_operands : Nat → Int32} {d_ties : Nat → Int32} {d_states : Nat → Int32} {d_gone : Nat → Int32} {d_toldIn : Nat → Int32} {d_broughtIn : Nat → Int32} {d_doneIn : Nat → Int32} {z_refusals : Nat → Int32} {p0 : Int32} {o : Int32} (h : f_X10_register p0 z_hasUnit u_stages b_jobs b_over b_states b_gone = some o) : Std g l yX10_register (.code yX10_register cX10_register 2 (some .int) :: gw) rm_X10_register A [.ref (q 0), .int p0] (wX g q z_hasUnit z_hasImage t_length t_bytes x_width x_guard x_stages x_fold x_pipe x_near s_at o_lines n_at o_kinds o_operands o_ties u_width u_guard u_bits u_stages u_places u_near u_quarter u_eighth u_ln u_shifts u_angles u_gains u_undos u_digits r_x r_y r_z r_upBits r_steps r_first r_second v_width v_guard v_bits v_stages v_places v_near v_quarter v_eighth v_ln v_shifts v_angles v_gains v_undos v_digits k_x k_y k_z k_upBits k_steps k_first k_second b_jobs b_over b_clocks b_held b_kinds b_operands b_ties b_states b_gone b_toldIn b_broughtIn b_doneIn c_jobs c_over c_clocks c_held c_kinds c_operands c_ties c_states c_gone c_toldIn c_broughtIn c_doneIn d_jobs d_over d_clocks d_held d_kinds d_operands d_ties d_states d_gone d_toldIn d_broughtIn d_doneIn z_refusals) (wX g q z_hasUnit z_hasImage t_length t_bytes x_width x_guard x_stages x_fold x_pipe x_near s_at o_lines n_at o_kinds o_operands o_ties u_width u_guard u_bits u_stages u_places u_near u_quarter u_eighth u_ln u_shifts u_angles u_gains u_undos u_digits r_x r_y r_z r_upBits r_steps r_first r_second v_width v_guard v_bits v_stages v_places v_near v_quarter v_eighth v_ln v_shifts v_angles v_gains v_undos v_digits k_x k_y k_z k_upBits k_steps k_first k_second b_jobs b_over b_clocks b_held b_kinds b_operands b_ties b_states b_gone b_toldIn b_broughtIn b_doneIn c_jobs c_over c_clocks c_held c_kinds c_operands c_ties c_states c_gone c_toldIn c_broughtIn c_doneIn d_jobs d_over d_clocks d_held d_kinds d_operands d_ties d_states d_gone d_toldIn d_broughtIn d_doneIn z_refusals) (some (.int o)) := by
  refine std_i (own := RX10) (by decide +kernel) rfl (Nat.le_of_ble_eq_true rfl) ?_
  intro p e s m args below meth c Q X ret H locs hP hS ls hl
  have hx := X.1
  have hb := X.2.1
  have hl : lv_has ls 2 [(0, .ref (q 0)), (1, .int p0)] := hl
  have ret : ∀ {H : Heap} {locs : List Loc} {pc : Nat} {ls : Array Slot} {v : Int32} , some (v) = some o → WP g A (wX g q z_hasUnit z_hasImage t_length t_bytes x_width x_guard x_stages x_fold x_pipe x_near s_at o_lines n_at o_kinds o_operands o_ties u_width u_guard u_bits u_stages u_places u_near u_quarter u_eighth u_ln u_shifts u_angles u_gains u_undos u_digits r_x r_y r_z r_upBits r_steps r_first r_second v_width v_guard v_bits v_stages v_places v_near v_quarter v_eighth v_ln v_shifts v_angles v_gains v_undos v_digits k_x k_y k_z k_upBits k_steps k_first k_second b_jobs b_over b_clocks b_held b_kinds b_operands b_ties b_states b_gone b_toldIn b_broughtIn b_doneIn c_jobs c_over c_clocks c_held c_kinds c_operands c_ties c_states c_gone c_toldIn c_broughtIn c_doneIn d_jobs d_over d_clocks d_held d_kinds d_operands d_ties d_states d_gone d_toldIn d_broughtIn d_doneIn z_refusals) H → va_S A s.heap H locs → decode cX10_register pc = .ok (.ireturn, 1) → W p l e rm_X10_register s m args below meth c H locs 0 0 Q (F0 m pc ls [.int v]) := by
    intro H locs pc ls v h hP hS hd
    cases h
    exact ret hP hS hd
  have b33 : ∀  (H : Heap) (locs : List Loc) (ls : Array Slot), f_X10_register_b33  z_hasUnit u_stages b_jobs b_over b_states b_gone   = some o → WP g A (wX g q z_hasUnit z_hasImage t_length t_bytes x_width x_guard x_stages x_fold x_pipe x_near s_at o_lines n_at o_kinds o_operands o_ties u_width u_guard u_bits u_stages u_places u_near u_quarter u_eighth u_ln u_shifts u_angles u_gains u_undos u_digits r_x r_y r_z r_upBits r_steps r_first r_second v_width v_guard v_bits v_stages v_places v_near v_quarter v_eighth v_ln v_shifts v_angles v_gains v_undos v_digits k_x k_y k_z k_upBits k_steps k_first k_second b_jobs b_over b_clocks b_held b_kinds b_operands b_ties b_states b_gone b_toldIn b_broughtIn b_doneIn c_jobs c_over c_clocks c_held c_kinds c_operands c_ties c_states c_gone c_toldIn c_broughtIn c_doneIn d_jobs d_over d_clocks d_held d_kinds d_operands d_ties d_states d_gone d_toldIn d_broughtIn d_doneIn z_refusals) H → va_S A s.heap H locs → lv_has ls 2 [] → W p l e rm_X10_register s m args below meth c H locs 0 0 Q (F0 m 33 ls []) := by
    intro   H locs ls h hP hS hl
    unfold f_X10_register_b33 at h
    refine lv_iconst (v := (-1)) hx hb dX10_register_33 rfl ?_
    exact ret h hP hS dX10_register_34
  unfold f_X10_register at h
  refine lv_aload_n hx hb dX10_register_0 rfl (lv_at hl 0 rfl) ?_
  refine gf_X10_110_X_0 X hP dX10_register_1 ?_
  refine rb_eq (tgt := 33) hx hb dX10_register_4 rfl (fun c4 => ?_) (fun c4 => ?_)
  · have h := br_n c4 h
    exact b33    _ _ _ h hP hS (lv_sub hl [] rfl)
  · have h := br_p c4 h
    refine lv_iload_n hx hb dX10_register_7 rfl (lv_at hl 1 rfl) ?_
    refine lv_if_lt (tgt := 33) hx hb dX10_register_8 rfl (fun c8 => ?_) (fun c8 => ?_)
    · have h := br_p c8 h
      exact b33    _ _ _ h hP hS (lv_sub hl [] rfl)
    · have h := br_n c8 h
      refine lv_iload_n hx hb dX10_register_11 rfl (lv_at hl 1 rfl) ?_
      refine lv_aload_n hx hb dX10_register_12 rfl (lv_at hl 0 rfl) ?_
      refine gf_X10_37_X_0 X hP dX10_register_13 ?_
      refine gf_X10_116_X_10 X hP dX10_register_16 ?_
      refine lv_icmp_gt (tgt := 33) hx hb dX10_register_19 rfl (fun c19 => ?_) (fun c19 => ?_)
      · have h := br_p c19 h
        exact b33    _ _ _ h hP hS (lv_sub hl [] rfl)
      · have h := br_n c19 h
        refine lv_aload_n hx hb dX10_register_22 rfl (lv_at hl 0 rfl) ?_
        refine gf_X10_60_X_0 X hP dX10_register_23 ?_
        refine lv_iload_n hx hb dX10_register_26 rfl (lv_at hl 1 rfl) ?_
        obtain ⟨o1, hco1, h⟩ := bd_of h
        obtain ⟨hF, hFA⟩ := fo_X_Book_24 hP
        refine kVN (rest := []) X dX10_register_27 wd_4_153 mw_X1_aheadOf wd_4_155 wp_5_15 hF (k0 := 0) rfl rfl rfl hS hFA (c_X1_aheadOf hco1) rfl hl.1 rfl (Nat.le_of_ble_eq_true rfl) rfl rfl ⟨Nat.le_of_ble_eq_true rfl, Nat.le_of_ble_eq_true rfl⟩ (fun H locs hF1 _ hk hS => ?_)
        have hP := un_X_Book_24 hP hk hF1
        refine W.eq (g2 := F0 m 30 ls [.int o1]) rfl ?_
        refine lv_goto (tgt := 34) hx hb dX10_register_30 rfl ?_
        exact ret h hP hS dX10_register_34
abbrev rm_X10_place : Room := { frames := 1, cells := 0, slots := 0, locals := 23 }
set_option maxRecDepth 100000 in
set_option maxHeartbeats 4000000 in
theorem c_X10_place {g : gT} {l : Launch} {A : Nat → Prop} {q : Nat → Nat} {z_hasUnit : Bool} {z_hasImage : Bool} {t_length : Int32} {t_bytes : Nat → Int32} {x_width : Int32} {x_guard : Int32} {x_stages : Int32} {x_fold : Int32} {x_pipe : Bool} {x_near : Bool} {s_at : Int32} {o_lines : Int32} {n_at : Int32} {o_kinds : Nat → Int32} {o_operands : Nat → Int32} {o_ties : Nat → Int32} {u_width : Int32} {u_guard : Int32} {u_bits : Int32} {u_stages : Int32} {u_places : Int32} {u_near : Bool} {u_quarter : Int64} {u_eighth : Int64} {u_ln : Int64} {u_shifts : Nat → Int32} {u_angles : Nat → Int64} {u_gains : Nat → Int64} {u_undos : Nat → Int64} {u_digits : Nat → Int32} {r_x : Int64} {r_y : Int64} {r_z : Int64} {r_upBits : Int32} {r_steps : Int32} {r_first : Int64} {r_second : Int64} {v_width : Int32} {v_guard : Int32} {v_bits : Int32} {v_stages : Int32} {v_places : Int32} {v_near : Bool} {v_quarter : Int64} {v_eighth : Int64} {v_ln : Int64} {v_shifts : Nat → Int32} {v_angles : Nat → Int64} {v_gains : Nat → Int64} {v_undos : Nat → Int64} {v_digits : Nat → Int32} {k_x : Int64} {k_y : Int64} {k_z : Int64} {k_upBits : Int32} {k_steps : Int32} {k_first : Int64} {k_second : Int64} {b_jobs : Int32} {b_over : Int32} {b_clocks : Int32} {b_held : Bool} {b_kinds : Nat → Int32} {b_operands : Nat → Int32} {b_ties : Nat → Int32} {b_states : Nat → Int32} {b_gone : Nat → Int32} {b_toldIn : Nat → Int32} {b_broughtIn : Nat → Int32} {b_doneIn : Nat → Int32} {c_jobs : Int32} {c_over : Int32} {c_clocks : Int32} {c_held : Bool} {c_kinds : Nat → Int32} {c_operands : Nat → Int32} {c_ties : Nat → Int32} {c_states : Nat → Int32} {c_gone : Nat → Int32} {c_toldIn : Nat → Int32} {c_broughtIn : Nat → Int32} {c_doneIn : Nat → Int32} {d_jobs : Int32} {d_over : Int32} {d_clocks : Int32} {d_held : Bool} {d_kinds : Nat → Int32} {d_operands : Nat → Int32} {d_ties : Nat → Int32} {d_states : Nat → Int32} {d_gone : Nat → Int32} {d_toldIn : Nat → Int32} {d_broughtIn : Nat → Int32} {d_doneIn : Nat → Int32} {z_refusals : Nat → Int32} {p0 : Int32} {o : Int32} (h : f_X10_place p0 z_hasUnit u_stages u_places b_jobs b_over b_states b_gone = some o) : Std g l yX10_place (.code yX10_place cX10_place 2 (some .int) :: gw) rm_X10_place A [.ref (q 0), .int p0] (wX g q z_hasUnit z_hasImage t_length t_bytes x_width x_guard x_stages x_fold x_pipe x_near s_at o_lines n_at o_kinds o_operands o_ties u_width u_guard u_bits u_stages u_places u_near u_quarter u_eighth u_ln u_shifts u_angles u_gains u_undos u_digits r_x r_y r_z r_upBits r_steps r_first r_second v_width v_guard v_bits v_stages v_places v_near v_quarter v_eighth v_ln v_shifts v_angles v_gains v_undos v_digits k_x k_y k_z k_upBits k_steps k_first k_second b_jobs b_over b_clocks b_held b_kinds b_operands b_ties b_states b_gone b_toldIn b_broughtIn b_doneIn c_jobs c_over c_clocks c_held c_kinds c_operands c_ties c_states c_gone c_toldIn c_broughtIn c_doneIn d_jobs d_over d_clocks d_held d_kinds d_operands d_ties d_states d_gone d_toldIn d_broughtIn d_doneIn z_refusals) (wX g q z_hasUnit z_hasImage t_length t_bytes x_width x_guard x_stages x_fold x_pipe x_near s_at o_lines n_at o_kinds o_operands o_ties u_width u_guard u_bits u_stages u_places u_near u_quarter u_eighth u_ln u_shifts u_angles u_gains u_undos u_digits r_x r_y r_z r_upBits r_steps r_first r_second v_width v_guard v_bits v_stages v_places v_near v_quarter v_eighth v_ln v_shifts v_angles v_gains v_undos v_digits k_x k_y k_z k_upBits k_steps k_first k_second b_jobs b_over b_clocks b_held b_kinds b_operands b_ties b_states b_gone b_toldIn b_broughtIn b_doneIn c_jobs c_over c_clocks c_held c_kinds c_operands c_ties c_states c_gone c_toldIn c_broughtIn c_doneIn d_jobs d_over d_clocks d_held d_kinds d_operands d_ties d_states d_gone d_toldIn d_broughtIn d_doneIn z_refusals) (some (.int o)) := by
  refine std_i (own := RX10) (by decide +kernel) rfl (Nat.le_of_ble_eq_true rfl) ?_
  intro p e s m args below meth c Q X ret H locs hP hS ls hl
  have hx := X.1
  have hb := X.2.1
  have hl : lv_has ls 2 [(0, .ref (q 0)), (1, .int p0)] := hl
  have ret : ∀ {H : Heap} {locs : List Loc} {pc : Nat} {ls : Array Slot} {v : Int32} , some (v) = some o → WP g A (wX g q z_hasUnit z_hasImage t_length t_bytes x_width x_guard x_stages x_fold x_pipe x_near s_at o_lines n_at o_kinds o_operands o_ties u_width u_guard u_bits u_stages u_places u_near u_quarter u_eighth u_ln u_shifts u_angles u_gains u_undos u_digits r_x r_y r_z r_upBits r_steps r_first r_second v_width v_guard v_bits v_stages v_places v_near v_quarter v_eighth v_ln v_shifts v_angles v_gains v_undos v_digits k_x k_y k_z k_upBits k_steps k_first k_second b_jobs b_over b_clocks b_held b_kinds b_operands b_ties b_states b_gone b_toldIn b_broughtIn b_doneIn c_jobs c_over c_clocks c_held c_kinds c_operands c_ties c_states c_gone c_toldIn c_broughtIn c_doneIn d_jobs d_over d_clocks d_held d_kinds d_operands d_ties d_states d_gone d_toldIn d_broughtIn d_doneIn z_refusals) H → va_S A s.heap H locs → decode cX10_place pc = .ok (.ireturn, 1) → W p l e rm_X10_place s m args below meth c H locs 0 0 Q (F0 m pc ls [.int v]) := by
    intro H locs pc ls v h hP hS hd
    cases h
    exact ret hP hS hd
  have b37 : ∀  (H : Heap) (locs : List Loc) (ls : Array Slot), f_X10_place_b37  z_hasUnit u_stages u_places b_jobs b_over b_states b_gone   = some o → WP g A (wX g q z_hasUnit z_hasImage t_length t_bytes x_width x_guard x_stages x_fold x_pipe x_near s_at o_lines n_at o_kinds o_operands o_ties u_width u_guard u_bits u_stages u_places u_near u_quarter u_eighth u_ln u_shifts u_angles u_gains u_undos u_digits r_x r_y r_z r_upBits r_steps r_first r_second v_width v_guard v_bits v_stages v_places v_near v_quarter v_eighth v_ln v_shifts v_angles v_gains v_undos v_digits k_x k_y k_z k_upBits k_steps k_first k_second b_jobs b_over b_clocks b_held b_kinds b_operands b_ties b_states b_gone b_toldIn b_broughtIn b_doneIn c_jobs c_over c_clocks c_held c_kinds c_operands c_ties c_states c_gone c_toldIn c_broughtIn c_doneIn d_jobs d_over d_clocks d_held d_kinds d_operands d_ties d_states d_gone d_toldIn d_broughtIn d_doneIn z_refusals) H → va_S A s.heap H locs → lv_has ls 2 [] → W p l e rm_X10_place s m args below meth c H locs 0 0 Q (F0 m 37 ls []) := by
    intro   H locs ls h hP hS hl
    unfold f_X10_place_b37 at h
    refine lv_iconst (v := (-1)) hx hb dX10_place_37 rfl ?_
    exact ret h hP hS dX10_place_38
  unfold f_X10_place at h
  refine lv_aload_n hx hb dX10_place_0 rfl (lv_at hl 0 rfl) ?_
  refine gf_X10_110_X_0 X hP dX10_place_1 ?_
  refine rb_eq (tgt := 37) hx hb dX10_place_4 rfl (fun c4 => ?_) (fun c4 => ?_)
  · have h := br_n c4 h
    exact b37    _ _ _ h hP hS (lv_sub hl [] rfl)
  · have h := br_p c4 h
    refine lv_iload_n hx hb dX10_place_7 rfl (lv_at hl 1 rfl) ?_
    refine lv_if_lt (tgt := 37) hx hb dX10_place_8 rfl (fun c8 => ?_) (fun c8 => ?_)
    · have h := br_p c8 h
      exact b37    _ _ _ h hP hS (lv_sub hl [] rfl)
    · have h := br_n c8 h
      refine lv_iload_n hx hb dX10_place_11 rfl (lv_at hl 1 rfl) ?_
      refine lv_aload_n hx hb dX10_place_12 rfl (lv_at hl 0 rfl) ?_
      refine gf_X10_37_X_0 X hP dX10_place_13 ?_
      refine gf_X10_121_X_10 X hP dX10_place_16 ?_
      refine lv_icmp_ge (tgt := 37) hx hb dX10_place_19 rfl (fun c19 => ?_) (fun c19 => ?_)
      · have h := br_p c19 h
        exact b37    _ _ _ h hP hS (lv_sub hl [] rfl)
      · have h := br_n c19 h
        refine lv_aload_n hx hb dX10_place_22 rfl (lv_at hl 0 rfl) ?_
        refine gf_X10_60_X_0 X hP dX10_place_23 ?_
        refine lv_iload_n hx hb dX10_place_26 rfl (lv_at hl 1 rfl) ?_
        refine lv_aload_n hx hb dX10_place_27 rfl (lv_at hl 0 rfl) ?_
        refine gf_X10_37_X_0 X hP dX10_place_28 ?_
        obtain ⟨o1, hco1, h⟩ := bd_of h
        obtain ⟨hF, hFA⟩ := fo_X_BU_24_10 hP
        refine kVN (rest := []) X dX10_place_31 wd_4_161 mw_X1_standsIn wd_4_109 wp_5_10 hF (k0 := 0) rfl rfl rfl hS hFA (c_X1_standsIn hco1) rfl hl.1 rfl (Nat.le_of_ble_eq_true rfl) rfl rfl ⟨Nat.le_of_ble_eq_true rfl, Nat.le_of_ble_eq_true rfl⟩ (fun H locs hF1 _ hk hS => ?_)
        have hP := un_X_BU_24_10 hP hk hF1
        refine W.eq (g2 := F0 m 34 ls [.int o1]) rfl ?_
        refine lv_goto (tgt := 38) hx hb dX10_place_34 rfl ?_
        exact ret h hP hS dX10_place_38
abbrev rm_X10_allOver : Room := { frames := 7, cells := 0, slots := 0, locals := 183 }
set_option maxRecDepth 100000 in
set_option maxHeartbeats 4000000 in
theorem c_X10_allOver {g : gT} {l : Launch} {A : Nat → Prop} {q : Nat → Nat} {z_hasUnit : Bool} {z_hasImage : Bool} {t_length : Int32} {t_bytes : Nat → Int32} {x_width : Int32} {x_guard : Int32} {x_stages : Int32} {x_fold : Int32} {x_pipe : Bool} {x_near : Bool} {s_at : Int32} {o_lines : Int32} {n_at : Int32} {o_kinds : Nat → Int32} {o_operands : Nat → Int32} {o_ties : Nat → Int32} {u_width : Int32} {u_guard : Int32} {u_bits : Int32} {u_stages : Int32} {u_places : Int32} {u_near : Bool} {u_quarter : Int64} {u_eighth : Int64} {u_ln : Int64} {u_shifts : Nat → Int32} {u_angles : Nat → Int64} {u_gains : Nat → Int64} {u_undos : Nat → Int64} {u_digits : Nat → Int32} {r_x : Int64} {r_y : Int64} {r_z : Int64} {r_upBits : Int32} {r_steps : Int32} {r_first : Int64} {r_second : Int64} {v_width : Int32} {v_guard : Int32} {v_bits : Int32} {v_stages : Int32} {v_places : Int32} {v_near : Bool} {v_quarter : Int64} {v_eighth : Int64} {v_ln : Int64} {v_shifts : Nat → Int32} {v_angles : Nat → Int64} {v_gains : Nat → Int64} {v_undos : Nat → Int64} {v_digits : Nat → Int32} {k_x : Int64} {k_y : Int64} {k_z : Int64} {k_upBits : Int32} {k_steps : Int32} {k_first : Int64} {k_second : Int64} {b_jobs : Int32} {b_over : Int32} {b_clocks : Int32} {b_held : Bool} {b_kinds : Nat → Int32} {b_operands : Nat → Int32} {b_ties : Nat → Int32} {b_states : Nat → Int32} {b_gone : Nat → Int32} {b_toldIn : Nat → Int32} {b_broughtIn : Nat → Int32} {b_doneIn : Nat → Int32} {c_jobs : Int32} {c_over : Int32} {c_clocks : Int32} {c_held : Bool} {c_kinds : Nat → Int32} {c_operands : Nat → Int32} {c_ties : Nat → Int32} {c_states : Nat → Int32} {c_gone : Nat → Int32} {c_toldIn : Nat → Int32} {c_broughtIn : Nat → Int32} {c_doneIn : Nat → Int32} {d_jobs : Int32} {d_over : Int32} {d_clocks : Int32} {d_held : Bool} {d_kinds : Nat → Int32} {d_operands : Nat → Int32} {d_ties : Nat → Int32} {d_states : Nat → Int32} {d_gone : Nat → Int32} {d_toldIn : Nat → Int32} {d_broughtIn : Nat → Int32} {d_doneIn : Nat → Int32} {z_refusals : Nat → Int32}  {o : Int32 × Int64 × Int64 × Int64 × Int32 × Int32 × Int64 × Int64 × Int32 × Int32 × Int32 × Bool × (Nat → Int32) × (Nat → Int32) × (Nat → Int32) × (Nat → Int32) × (Nat → Int32) × (Nat → Int32) × (Nat → Int32) × (Nat → Int32)} (h : f_X10_allOver  z_hasUnit u_width u_guard u_bits u_stages u_places u_near u_quarter u_ln u_shifts u_angles u_undos u_digits r_x r_y r_z r_upBits r_steps r_first r_second b_jobs b_over b_clocks b_held b_kinds b_operands b_ties b_states b_gone b_toldIn b_broughtIn b_doneIn d_jobs d_over d_clocks d_held d_kinds d_operands d_ties d_states d_gone d_toldIn d_broughtIn d_doneIn = some o) : Std g l yX10_allOver (.code yX10_allOver cX10_allOver 3 (some .int) :: gw) rm_X10_allOver A [.ref (q 0)] (wX g q z_hasUnit z_hasImage t_length t_bytes x_width x_guard x_stages x_fold x_pipe x_near s_at o_lines n_at o_kinds o_operands o_ties u_width u_guard u_bits u_stages u_places u_near u_quarter u_eighth u_ln u_shifts u_angles u_gains u_undos u_digits r_x r_y r_z r_upBits r_steps r_first r_second v_width v_guard v_bits v_stages v_places v_near v_quarter v_eighth v_ln v_shifts v_angles v_gains v_undos v_digits k_x k_y k_z k_upBits k_steps k_first k_second b_jobs b_over b_clocks b_held b_kinds b_operands b_ties b_states b_gone b_toldIn b_broughtIn b_doneIn c_jobs c_over c_clocks c_held c_kinds c_operands c_ties c_states c_gone c_toldIn c_broughtIn c_doneIn d_jobs d_over d_clocks d_held d_kinds d_operands d_ties d_states d_gone d_toldIn d_broughtIn d_doneIn z_refusals) (wX g q z_hasUnit z_hasImage t_length t_bytes x_width x_guard x_stages x_fold x_pipe x_near s_at o_lines n_at o_kinds o_operands o_ties u_width u_guard u_bits u_stages u_places u_near u_quarter u_eighth u_ln u_shifts u_angles u_gains u_undos u_digits o.2.1 o.2.2.1 o.2.2.2.1 o.2.2.2.2.1 o.2.2.2.2.2.1 o.2.2.2.2.2.2.1 o.2.2.2.2.2.2.2.1 v_width v_guard v_bits v_stages v_places v_near v_quarter v_eighth v_ln v_shifts v_angles v_gains v_undos v_digits k_x k_y k_z k_upBits k_steps k_first k_second b_jobs b_over b_clocks b_held b_kinds b_operands b_ties b_states b_gone b_toldIn b_broughtIn b_doneIn c_jobs c_over c_clocks c_held c_kinds c_operands c_ties c_states c_gone c_toldIn c_broughtIn c_doneIn o.2.2.2.2.2.2.2.2.1 o.2.2.2.2.2.2.2.2.2.1 o.2.2.2.2.2.2.2.2.2.2.1 o.2.2.2.2.2.2.2.2.2.2.2.1 o.2.2.2.2.2.2.2.2.2.2.2.2.1 o.2.2.2.2.2.2.2.2.2.2.2.2.2.1 o.2.2.2.2.2.2.2.2.2.2.2.2.2.2.1 o.2.2.2.2.2.2.2.2.2.2.2.2.2.2.2.1 o.2.2.2.2.2.2.2.2.2.2.2.2.2.2.2.2.1 o.2.2.2.2.2.2.2.2.2.2.2.2.2.2.2.2.2.1 o.2.2.2.2.2.2.2.2.2.2.2.2.2.2.2.2.2.2.1 o.2.2.2.2.2.2.2.2.2.2.2.2.2.2.2.2.2.2.2 z_refusals) (some (.int o.1)) := by
  refine std_i (own := RX10) (by decide +kernel) rfl (Nat.le_of_ble_eq_true rfl) ?_
  intro p e s m args below meth c Q X ret H locs hP hS ls hl
  have hx := X.1
  have hb := X.2.1
  have hl : lv_has ls 3 [(0, .ref (q 0))] := hl
  have ret : ∀ {H : Heap} {locs : List Loc} {pc : Nat} {ls : Array Slot} {v : Int32} {r_x : Int64} {r_y : Int64} {r_z : Int64} {r_upBits : Int32} {r_steps : Int32} {r_first : Int64} {r_second : Int64} {d_jobs : Int32} {d_over : Int32} {d_clocks : Int32} {d_held : Bool} {d_kinds : Nat → Int32} {d_operands : Nat → Int32} {d_ties : Nat → Int32} {d_states : Nat → Int32} {d_gone : Nat → Int32} {d_toldIn : Nat → Int32} {d_broughtIn : Nat → Int32} {d_doneIn : Nat → Int32}, some (v, r_x, r_y, r_z, r_upBits, r_steps, r_first, r_second, d_jobs, d_over, d_clocks, d_held, d_kinds, d_operands, d_ties, d_states, d_gone, d_toldIn, d_broughtIn, d_doneIn) = some o → WP g A (wX g q z_hasUnit z_hasImage t_length t_bytes x_width x_guard x_stages x_fold x_pipe x_near s_at o_lines n_at o_kinds o_operands o_ties u_width u_guard u_bits u_stages u_places u_near u_quarter u_eighth u_ln u_shifts u_angles u_gains u_undos u_digits r_x r_y r_z r_upBits r_steps r_first r_second v_width v_guard v_bits v_stages v_places v_near v_quarter v_eighth v_ln v_shifts v_angles v_gains v_undos v_digits k_x k_y k_z k_upBits k_steps k_first k_second b_jobs b_over b_clocks b_held b_kinds b_operands b_ties b_states b_gone b_toldIn b_broughtIn b_doneIn c_jobs c_over c_clocks c_held c_kinds c_operands c_ties c_states c_gone c_toldIn c_broughtIn c_doneIn d_jobs d_over d_clocks d_held d_kinds d_operands d_ties d_states d_gone d_toldIn d_broughtIn d_doneIn z_refusals) H → va_S A s.heap H locs → decode cX10_allOver pc = .ok (.ireturn, 1) → W p l e rm_X10_allOver s m args below meth c H locs 0 0 Q (F0 m pc ls [.int v]) := by
    intro H locs pc ls v r_x r_y r_z r_upBits r_steps r_first r_second d_jobs d_over d_clocks d_held d_kinds d_operands d_ties d_states d_gone d_toldIn d_broughtIn d_doneIn h hP hS hd
    cases h
    exact ret hP hS hd
  have b67 : ∀ (x2 : Int32) (r_x : Int64) (r_y : Int64) (r_z : Int64) (r_upBits : Int32) (r_steps : Int32) (r_first : Int64) (r_second : Int64) (d_jobs : Int32) (d_over : Int32) (d_clocks : Int32) (d_held : Bool) (d_kinds : Nat → Int32) (d_operands : Nat → Int32) (d_ties : Nat → Int32) (d_states : Nat → Int32) (d_gone : Nat → Int32) (d_toldIn : Nat → Int32) (d_broughtIn : Nat → Int32) (d_doneIn : Nat → Int32) (H : Heap) (locs : List Loc) (ls : Array Slot), f_X10_allOver_b67  z_hasUnit u_width u_guard u_bits u_stages u_places u_near u_quarter u_ln u_shifts u_angles u_undos u_digits b_jobs b_over b_clocks b_held b_kinds b_operands b_ties b_states b_gone b_toldIn b_broughtIn b_doneIn  x2 r_x r_y r_z r_upBits r_steps r_first r_second d_jobs d_over d_clocks d_held d_kinds d_operands d_ties d_states d_gone d_toldIn d_broughtIn d_doneIn = some o → WP g A (wX g q z_hasUnit z_hasImage t_length t_bytes x_width x_guard x_stages x_fold x_pipe x_near s_at o_lines n_at o_kinds o_operands o_ties u_width u_guard u_bits u_stages u_places u_near u_quarter u_eighth u_ln u_shifts u_angles u_gains u_undos u_digits r_x r_y r_z r_upBits r_steps r_first r_second v_width v_guard v_bits v_stages v_places v_near v_quarter v_eighth v_ln v_shifts v_angles v_gains v_undos v_digits k_x k_y k_z k_upBits k_steps k_first k_second b_jobs b_over b_clocks b_held b_kinds b_operands b_ties b_states b_gone b_toldIn b_broughtIn b_doneIn c_jobs c_over c_clocks c_held c_kinds c_operands c_ties c_states c_gone c_toldIn c_broughtIn c_doneIn d_jobs d_over d_clocks d_held d_kinds d_operands d_ties d_states d_gone d_toldIn d_broughtIn d_doneIn z_refusals) H → va_S A s.heap H locs → lv_has ls 3 [(2, .int x2)] → W p l e rm_X10_allOver s m args below meth c H locs 0 0 Q (F0 m 67 ls []) := by
    intro  x2 r_x r_y r_z r_upBits r_steps r_first r_second d_jobs d_over d_clocks d_held d_kinds d_operands d_ties d_states d_gone d_toldIn d_broughtIn d_doneIn H locs ls h hP hS hl
    unfold f_X10_allOver_b67 at h
    refine lv_iload_n hx hb dX10_allOver_67 rfl (lv_at hl 0 rfl) ?_
    exact ret h hP hS dX10_allOver_68
  have l34 : ∀ (n : Nat), ∀ (x1 : Int32) (x2 : Int32) (r_x : Int64) (r_y : Int64) (r_z : Int64) (r_upBits : Int32) (r_steps : Int32) (r_first : Int64) (r_second : Int64) (d_jobs : Int32) (d_over : Int32) (d_clocks : Int32) (d_held : Bool) (d_kinds : Nat → Int32) (d_operands : Nat → Int32) (d_ties : Nat → Int32) (d_states : Nat → Int32) (d_gone : Nat → Int32) (d_toldIn : Nat → Int32) (d_broughtIn : Nat → Int32) (d_doneIn : Nat → Int32) (H : Heap) (locs : List Loc) (ls : Array Slot), f_X10_allOver_l34  z_hasUnit u_width u_guard u_bits u_stages u_places u_near u_quarter u_ln u_shifts u_angles u_undos u_digits b_jobs b_over b_clocks b_held b_kinds b_operands b_ties b_states b_gone b_toldIn b_broughtIn b_doneIn  n x1 x2 r_x r_y r_z r_upBits r_steps r_first r_second d_jobs d_over d_clocks d_held d_kinds d_operands d_ties d_states d_gone d_toldIn d_broughtIn d_doneIn = some o → WP g A (wX g q z_hasUnit z_hasImage t_length t_bytes x_width x_guard x_stages x_fold x_pipe x_near s_at o_lines n_at o_kinds o_operands o_ties u_width u_guard u_bits u_stages u_places u_near u_quarter u_eighth u_ln u_shifts u_angles u_gains u_undos u_digits r_x r_y r_z r_upBits r_steps r_first r_second v_width v_guard v_bits v_stages v_places v_near v_quarter v_eighth v_ln v_shifts v_angles v_gains v_undos v_digits k_x k_y k_z k_upBits k_steps k_first k_second b_jobs b_over b_clocks b_held b_kinds b_operands b_ties b_states b_gone b_toldIn b_broughtIn b_doneIn c_jobs c_over c_clocks c_held c_kinds c_operands c_ties c_states c_gone c_toldIn c_broughtIn c_doneIn d_jobs d_over d_clocks d_held d_kinds d_operands d_ties d_states d_gone d_toldIn d_broughtIn d_doneIn z_refusals) H → va_S A s.heap H locs → lv_has ls 3 [(0, .ref (q 0)), (1, .int x1), (2, .int x2)] → W p l e rm_X10_allOver s m args below meth c H locs 0 0 Q (F0 m 34 ls []) := by
    intro  n
    induction n with
    | zero =>
      intro x1 x2 r_x r_y r_z r_upBits r_steps r_first r_second d_jobs d_over d_clocks d_held d_kinds d_operands d_ties d_states d_gone d_toldIn d_broughtIn d_doneIn H locs ls h
      exact nz_of h
    | succ n ih =>
      intro x1 x2 r_x r_y r_z r_upBits r_steps r_first r_second d_jobs d_over d_clocks d_held d_kinds d_operands d_ties d_states d_gone d_toldIn d_broughtIn d_doneIn H locs ls h hP hS hl
      rw [f_X10_allOver_l34] at h
      refine lv_aload_n hx hb dX10_allOver_34 rfl (lv_at hl 0 rfl) ?_
      refine gf_X10_67_X_0 X hP dX10_allOver_35 ?_
      obtain ⟨o2, hco2, h⟩ := bd_of h
      obtain ⟨hF, hFA⟩ := fo_X_Book_42 hP
      refine kVN (rest := []) X dX10_allOver_38 wd_4_173 mw_X1_isBusy wd_4_97 wp_5_7 hF (k0 := 0) rfl rfl rfl hS hFA (c_X1_isBusy hco2) rfl hl.1 rfl (Nat.le_of_ble_eq_true rfl) rfl rfl ⟨Nat.le_of_ble_eq_true rfl, Nat.le_of_ble_eq_true rfl⟩ (fun H locs hF1 _ hk hS => ?_)
      have hP := un_X_Book_42 hP hk hF1
      refine W.eq (g2 := F0 m 41 ls [.int (bI o2.1)]) rfl ?_
      refine rb_eq (tgt := 67) hx hb dX10_allOver_41 rfl (fun c41 => ?_) (fun c41 => ?_)
      · have h := br_n c41 h
        exact b67   x2 r_x r_y r_z r_upBits r_steps r_first r_second d_jobs o2.2 d_clocks d_held d_kinds d_operands d_ties d_states d_gone d_toldIn d_broughtIn d_doneIn _ _ _ h hP hS (lv_sub hl [2] rfl)
      · have h := br_p c41 h
        refine lv_iload_n hx hb dX10_allOver_44 rfl (lv_at hl 2 rfl) ?_
        refine lv_iload_n hx hb dX10_allOver_45 rfl (lv_at hl 1 rfl) ?_
        refine lv_icmp_ge (tgt := 67) hx hb dX10_allOver_46 rfl (fun c46 => ?_) (fun c46 => ?_)
        · have h := br_p c46 h
          exact b67   x2 r_x r_y r_z r_upBits r_steps r_first r_second d_jobs o2.2 d_clocks d_held d_kinds d_operands d_ties d_states d_gone d_toldIn d_broughtIn d_doneIn _ _ _ h hP hS (lv_sub hl [2] rfl)
        · have h := br_n c46 h
          refine lv_aload_n hx hb dX10_allOver_49 rfl (lv_at hl 0 rfl) ?_
          refine gf_X10_67_X_0 X hP dX10_allOver_50 ?_
          refine lv_aload_n hx hb dX10_allOver_53 rfl (lv_at hl 0 rfl) ?_
          refine gf_X10_46_X_0 X hP dX10_allOver_54 ?_
          obtain ⟨o3, hco3, h⟩ := bd_of h
          obtain ⟨hF, hFA⟩ := fo_X_BT_42_16 hP
          refine kVN (rest := []) X dX10_allOver_57 wd_4_91 mw_X1_tick wd_4_93 wp_5_6 hF (k0 := 0) rfl rfl rfl hS hFA (c_X1_tick hco3) rfl hl.1 rfl (Nat.le_of_ble_eq_true rfl) rfl rfl ⟨Nat.le_of_ble_eq_true rfl, Nat.le_of_ble_eq_true rfl⟩ (fun H locs hF1 _ hk hS => ?_)
          have hP := un_X_BT_42_16 hP hk hF1
          refine W.eq (g2 := F0 m 60 ls [.int o3.1]) rfl ?_
          refine lv_pop hx hb dX10_allOver_60 rfl ?_
          obtain ⟨v4, ev4⟩ : ∃ z : Int32, z = (x2 + 1) := ⟨_, rfl⟩
          have h := lt_at ev4 h
          refine lv_iinc (v := v4) (lv' := [(2, .int v4), (0, .ref (q 0)), (1, .int x1)]) hx hb dX10_allOver_61 hl (k := 2) rfl (by rw [ev4]; rfl) (by decide) rfl (fun ls hl => ?_)
          refine lv_goto (tgt := 34) hx hb dX10_allOver_64 rfl ?_
          exact ih x1 v4 o3.2.2.2.2.2.2.2.2.1 o3.2.2.2.2.2.2.2.2.2.1 o3.2.2.2.2.2.2.2.2.2.2.1 o3.2.2.2.2.2.2.2.2.2.2.2.1 o3.2.2.2.2.2.2.2.2.2.2.2.2.1 o3.2.2.2.2.2.2.2.2.2.2.2.2.2.1 o3.2.2.2.2.2.2.2.2.2.2.2.2.2.2 d_jobs o3.2.1 o3.2.2.1 d_held d_kinds o3.2.2.2.1 d_ties o3.2.2.2.2.1 o3.2.2.2.2.2.1 d_toldIn o3.2.2.2.2.2.2.1 o3.2.2.2.2.2.2.2.1 _ _ _ h hP hS (lv_sub hl [1, 2, 0] rfl)
  unfold f_X10_allOver at h
  refine lv_aload_n hx hb dX10_allOver_0 rfl (lv_at hl 0 rfl) ?_
  refine gf_X10_110_X_0 X hP dX10_allOver_1 ?_
  refine rb_ne (tgt := 9) hx hb dX10_allOver_4 rfl (fun c4 => ?_) (fun c4 => ?_)
  · have h := br_p c4 h
    refine lv_aload_n hx hb dX10_allOver_9 rfl (lv_at hl 0 rfl) ?_
    refine gf_X10_67_X_0 X hP dX10_allOver_10 ?_
    refine lv_aload_n hx hb dX10_allOver_13 rfl (lv_at hl 0 rfl) ?_
    refine gf_X10_60_X_0 X hP dX10_allOver_14 ?_
    obtain ⟨o1, hco1, h⟩ := bd_of h
    obtain ⟨hF, hFA⟩ := fo_X_BB_42_24 hP
    refine kVN (rest := []) X dX10_allOver_17 wd_4_166 mw_X1_copyFrom wd_4_168 wp_6_0 hF (k0 := 0) rfl rfl rfl hS hFA (c_X1_copyFrom hco1) rfl hl.1 rfl (Nat.le_of_ble_eq_true rfl) rfl rfl ⟨Nat.le_of_ble_eq_true rfl, Nat.le_of_ble_eq_true rfl⟩ (fun H locs hF1 _ hk hS => ?_)
    have hP := un_X_BB_42_24 hP hk hF1
    refine W.eq (g2 := F0 m 20 ls []) rfl ?_
    refine lv_aload_n hx hb dX10_allOver_20 rfl (lv_at hl 0 rfl) ?_
    refine gf_X10_67_X_0 X hP dX10_allOver_21 ?_
    refine lv_iconst (v := 0) hx hb dX10_allOver_24 rfl ?_
    refine pf_X10_134_X_42 (v0 := false) X hP hS dX10_allOver_25 (fun H locs hP hS => ?_)
    refine lv_sipush (v := 1586) hx hb dX10_allOver_28 rfl ?_
    refine lv_istore_n (lv' := [(1, .int 1586), (0, .ref (q 0))]) hx hb dX10_allOver_31 rfl hl (by decide) rfl (fun ls hl => ?_)
    refine lv_iconst (v := 0) hx hb dX10_allOver_32 rfl ?_
    refine lv_istore_n (lv' := [(2, .int 0), (1, .int 1586), (0, .ref (q 0))]) hx hb dX10_allOver_33 rfl hl (by decide) rfl (fun ls hl => ?_)
    exact l34  FU (1586 : Int32) (0 : Int32) r_x r_y r_z r_upBits r_steps r_first r_second o1.1 o1.2.1 o1.2.2.1 false o1.2.2.2.2.1 o1.2.2.2.2.2.1 o1.2.2.2.2.2.2.1 o1.2.2.2.2.2.2.2.1 o1.2.2.2.2.2.2.2.2.1 o1.2.2.2.2.2.2.2.2.2.1 o1.2.2.2.2.2.2.2.2.2.2.1 o1.2.2.2.2.2.2.2.2.2.2.2 _ _ _ h hP hS (lv_sub hl [2, 1, 0] rfl)
  · have h := br_n c4 h
    refine lv_iconst (v := (-1)) hx hb dX10_allOver_7 rfl ?_
    exact ret h hP hS dX10_allOver_8
abbrev rm_X10_solveBoth : Room := { frames := 5, cells := 0, slots := 0, locals := 134 }
set_option maxRecDepth 100000 in
set_option maxHeartbeats 4000000 in
theorem c_X10_solveBoth {g : gT} {l : Launch} {A : Nat → Prop} {q : Nat → Nat} {z_hasUnit : Bool} {z_hasImage : Bool} {t_length : Int32} {t_bytes : Nat → Int32} {x_width : Int32} {x_guard : Int32} {x_stages : Int32} {x_fold : Int32} {x_pipe : Bool} {x_near : Bool} {s_at : Int32} {o_lines : Int32} {n_at : Int32} {o_kinds : Nat → Int32} {o_operands : Nat → Int32} {o_ties : Nat → Int32} {u_width : Int32} {u_guard : Int32} {u_bits : Int32} {u_stages : Int32} {u_places : Int32} {u_near : Bool} {u_quarter : Int64} {u_eighth : Int64} {u_ln : Int64} {u_shifts : Nat → Int32} {u_angles : Nat → Int64} {u_gains : Nat → Int64} {u_undos : Nat → Int64} {u_digits : Nat → Int32} {r_x : Int64} {r_y : Int64} {r_z : Int64} {r_upBits : Int32} {r_steps : Int32} {r_first : Int64} {r_second : Int64} {v_width : Int32} {v_guard : Int32} {v_bits : Int32} {v_stages : Int32} {v_places : Int32} {v_near : Bool} {v_quarter : Int64} {v_eighth : Int64} {v_ln : Int64} {v_shifts : Nat → Int32} {v_angles : Nat → Int64} {v_gains : Nat → Int64} {v_undos : Nat → Int64} {v_digits : Nat → Int32} {k_x : Int64} {k_y : Int64} {k_z : Int64} {k_upBits : Int32} {k_steps : Int32} {k_first : Int64} {k_second : Int64} {b_jobs : Int32} {b_over : Int32} {b_clocks : Int32} {b_held : Bool} {b_kinds : Nat → Int32} {b_operands : Nat → Int32} {b_ties : Nat → Int32} {b_states : Nat → Int32} {b_gone : Nat → Int32} {b_toldIn : Nat → Int32} {b_broughtIn : Nat → Int32} {b_doneIn : Nat → Int32} {c_jobs : Int32} {c_over : Int32} {c_clocks : Int32} {c_held : Bool} {c_kinds : Nat → Int32} {c_operands : Nat → Int32} {c_ties : Nat → Int32} {c_states : Nat → Int32} {c_gone : Nat → Int32} {c_toldIn : Nat → Int32} {c_broughtIn : Nat → Int32} {c_doneIn : Nat → Int32} {d_jobs : Int32} {d_over : Int32} {d_clocks : Int32} {d_held : Bool} {d_kinds : Nat → Int32} {d_operands : Nat → Int32} {d_ties : Nat → Int32} {d_states : Nat → Int32} {d_gone : Nat → Int32} {d_toldIn : Nat → Int32} {d_broughtIn : Nat → Int32} {d_doneIn : Nat → Int32} {z_refusals : Nat → Int32} {p0 : Int32} {p1 : Int64} {p2 : Int64} {p3 : Int64} {o : Bool × Int64 × Int64 × Int64 × Int32 × Int32 × Int64 × Int64 × Int64 × Int64 × Int64 × Int32 × Int32 × Int64 × Int64} (h : f_X10_solveBoth p0 p1 p2 p3 u_width u_guard u_bits u_stages u_near u_quarter u_ln u_shifts u_angles u_undos u_digits r_x r_y r_z r_upBits r_steps r_first r_second v_width v_guard v_bits v_stages v_near v_quarter v_ln v_shifts v_angles v_undos v_digits k_x k_y k_z k_upBits k_steps k_first k_second = some o) : Std g l yX10_solveBoth (.code yX10_solveBoth cX10_solveBoth 9 (some .boolean) :: gw) rm_X10_solveBoth A [.ref (q 0), .int p0, .long p1, .long p2, .long p3] (wX g q z_hasUnit z_hasImage t_length t_bytes x_width x_guard x_stages x_fold x_pipe x_near s_at o_lines n_at o_kinds o_operands o_ties u_width u_guard u_bits u_stages u_places u_near u_quarter u_eighth u_ln u_shifts u_angles u_gains u_undos u_digits r_x r_y r_z r_upBits r_steps r_first r_second v_width v_guard v_bits v_stages v_places v_near v_quarter v_eighth v_ln v_shifts v_angles v_gains v_undos v_digits k_x k_y k_z k_upBits k_steps k_first k_second b_jobs b_over b_clocks b_held b_kinds b_operands b_ties b_states b_gone b_toldIn b_broughtIn b_doneIn c_jobs c_over c_clocks c_held c_kinds c_operands c_ties c_states c_gone c_toldIn c_broughtIn c_doneIn d_jobs d_over d_clocks d_held d_kinds d_operands d_ties d_states d_gone d_toldIn d_broughtIn d_doneIn z_refusals) (wX g q z_hasUnit z_hasImage t_length t_bytes x_width x_guard x_stages x_fold x_pipe x_near s_at o_lines n_at o_kinds o_operands o_ties u_width u_guard u_bits u_stages u_places u_near u_quarter u_eighth u_ln u_shifts u_angles u_gains u_undos u_digits o.2.1 o.2.2.1 o.2.2.2.1 o.2.2.2.2.1 o.2.2.2.2.2.1 o.2.2.2.2.2.2.1 o.2.2.2.2.2.2.2.1 v_width v_guard v_bits v_stages v_places v_near v_quarter v_eighth v_ln v_shifts v_angles v_gains v_undos v_digits o.2.2.2.2.2.2.2.2.1 o.2.2.2.2.2.2.2.2.2.1 o.2.2.2.2.2.2.2.2.2.2.1 o.2.2.2.2.2.2.2.2.2.2.2.1 o.2.2.2.2.2.2.2.2.2.2.2.2.1 o.2.2.2.2.2.2.2.2.2.2.2.2.2.1 o.2.2.2.2.2.2.2.2.2.2.2.2.2.2 b_jobs b_over b_clocks b_held b_kinds b_operands b_ties b_states b_gone b_toldIn b_broughtIn b_doneIn c_jobs c_over c_clocks c_held c_kinds c_operands c_ties c_states c_gone c_toldIn c_broughtIn c_doneIn d_jobs d_over d_clocks d_held d_kinds d_operands d_ties d_states d_gone d_toldIn d_broughtIn d_doneIn z_refusals) (some (.int (bI o.1))) := by
  refine std_z (own := RX10) (by decide +kernel) rfl (Nat.le_of_ble_eq_true rfl) ?_
  intro p e s m args below meth c Q X ret H locs hP hS ls hl
  have hx := X.1
  have hb := X.2.1
  have hl : lv_has ls 9 [(0, .ref (q 0)), (1, .int p0), (2, .long p1), (4, .long p2), (6, .long p3)] := hl
  have ret : ∀ {H : Heap} {locs : List Loc} {pc : Nat} {ls : Array Slot} {v : Bool} {r_x : Int64} {r_y : Int64} {r_z : Int64} {r_upBits : Int32} {r_steps : Int32} {r_first : Int64} {r_second : Int64} {k_x : Int64} {k_y : Int64} {k_z : Int64} {k_upBits : Int32} {k_steps : Int32} {k_first : Int64} {k_second : Int64}, some (v, r_x, r_y, r_z, r_upBits, r_steps, r_first, r_second, k_x, k_y, k_z, k_upBits, k_steps, k_first, k_second) = some o → WP g A (wX g q z_hasUnit z_hasImage t_length t_bytes x_width x_guard x_stages x_fold x_pipe x_near s_at o_lines n_at o_kinds o_operands o_ties u_width u_guard u_bits u_stages u_places u_near u_quarter u_eighth u_ln u_shifts u_angles u_gains u_undos u_digits r_x r_y r_z r_upBits r_steps r_first r_second v_width v_guard v_bits v_stages v_places v_near v_quarter v_eighth v_ln v_shifts v_angles v_gains v_undos v_digits k_x k_y k_z k_upBits k_steps k_first k_second b_jobs b_over b_clocks b_held b_kinds b_operands b_ties b_states b_gone b_toldIn b_broughtIn b_doneIn c_jobs c_over c_clocks c_held c_kinds c_operands c_ties c_states c_gone c_toldIn c_broughtIn c_doneIn d_jobs d_over d_clocks d_held d_kinds d_operands d_ties d_states d_gone d_toldIn d_broughtIn d_doneIn z_refusals) H → va_S A s.heap H locs → decode cX10_solveBoth pc = .ok (.ireturn, 1) → W p l e rm_X10_solveBoth s m args below meth c H locs 0 0 Q (F0 m pc ls [.int (bI v)]) := by
    intro H locs pc ls v r_x r_y r_z r_upBits r_steps r_first r_second k_x k_y k_z k_upBits k_steps k_first k_second h hP hS hd
    cases h
    exact ret hP hS hd
  have b57 : ∀ (r_x : Int64) (r_y : Int64) (r_z : Int64) (r_upBits : Int32) (r_steps : Int32) (r_first : Int64) (r_second : Int64) (k_x : Int64) (k_y : Int64) (k_z : Int64) (k_upBits : Int32) (k_steps : Int32) (k_first : Int64) (k_second : Int64) (H : Heap) (locs : List Loc) (ls : Array Slot), f_X10_solveBoth_b57  u_width u_guard u_bits u_stages u_near u_quarter u_ln u_shifts u_angles u_undos u_digits v_width v_guard v_bits v_stages v_near v_quarter v_ln v_shifts v_angles v_undos v_digits  r_x r_y r_z r_upBits r_steps r_first r_second k_x k_y k_z k_upBits k_steps k_first k_second = some o → WP g A (wX g q z_hasUnit z_hasImage t_length t_bytes x_width x_guard x_stages x_fold x_pipe x_near s_at o_lines n_at o_kinds o_operands o_ties u_width u_guard u_bits u_stages u_places u_near u_quarter u_eighth u_ln u_shifts u_angles u_gains u_undos u_digits r_x r_y r_z r_upBits r_steps r_first r_second v_width v_guard v_bits v_stages v_places v_near v_quarter v_eighth v_ln v_shifts v_angles v_gains v_undos v_digits k_x k_y k_z k_upBits k_steps k_first k_second b_jobs b_over b_clocks b_held b_kinds b_operands b_ties b_states b_gone b_toldIn b_broughtIn b_doneIn c_jobs c_over c_clocks c_held c_kinds c_operands c_ties c_states c_gone c_toldIn c_broughtIn c_doneIn d_jobs d_over d_clocks d_held d_kinds d_operands d_ties d_states d_gone d_toldIn d_broughtIn d_doneIn z_refusals) H → va_S A s.heap H locs → lv_has ls 9 [] → W p l e rm_X10_solveBoth s m args below meth c H locs 0 0 Q (F0 m 57 ls []) := by
    intro  r_x r_y r_z r_upBits r_steps r_first r_second k_x k_y k_z k_upBits k_steps k_first k_second H locs ls h hP hS hl
    unfold f_X10_solveBoth_b57 at h
    refine lv_iconst (v := 0) hx hb dX10_solveBoth_57 rfl ?_
    exact ret h hP hS dX10_solveBoth_58
  unfold f_X10_solveBoth at h
  refine lv_bipush (v := 22) hx hb dX10_solveBoth_0 rfl ?_
  refine lv_aload_n hx hb dX10_solveBoth_2 rfl (lv_at hl 0 rfl) ?_
  refine gf_X10_37_X_0 X hP dX10_solveBoth_3 ?_
  refine gf_X10_117_X_10 X hP dX10_solveBoth_6 ?_
  refine lv_isub hx hb dX10_solveBoth_9 ?_
  refine lv_topi (fun v1 ev1 => ?_)
  have h := lt_at ev1 h
  refine lv_istore (lv' := [(8, .int v1), (0, .ref (q 0)), (1, .int p0), (2, .long p1), (4, .long p2), (6, .long p3)]) hx hb dX10_solveBoth_10 hl (by decide) rfl (fun ls hl => ?_)
  refine lv_aload_n hx hb dX10_solveBoth_12 rfl (lv_at hl 1 rfl) ?_
  refine gf_X10_46_X_0 X hP dX10_solveBoth_13 ?_
  refine lv_iload_n hx hb dX10_solveBoth_16 rfl (lv_at hl 2 rfl) ?_
  refine lv_lload_n hx hb dX10_solveBoth_17 rfl (lv_at hl 3 rfl) ?_
  refine lv_lload hx hb dX10_solveBoth_18 (lv_at hl 4 rfl) ?_
  refine lv_lload hx hb dX10_solveBoth_20 (lv_at hl 5 rfl) ?_
  obtain ⟨o2, hco2, h⟩ := bd_of h
  obtain ⟨hF, hFA⟩ := fo_X_Turner_16 hP
  refine kVN (rest := []) X dX10_solveBoth_22 wd_3_149 mw_X7_solve wd_3_151 wp_3_9 hF (k0 := 0) rfl rfl rfl hS hFA (c_X7_solve hco2) rfl hl.1 rfl (Nat.le_of_ble_eq_true rfl) rfl rfl ⟨Nat.le_of_ble_eq_true rfl, Nat.le_of_ble_eq_true rfl⟩ (fun H locs hF1 _ hk hS => ?_)
  have hP := un_X_Turner_16 hP hk hF1
  refine W.eq (g2 := F0 m 25 ls [.int (bI o2.1)]) rfl ?_
  refine rb_eq (tgt := 57) hx hb dX10_solveBoth_25 rfl (fun c25 => ?_) (fun c25 => ?_)
  · have h := br_n c25 h
    exact b57   o2.2.1 o2.2.2.1 o2.2.2.2.1 o2.2.2.2.2.1 o2.2.2.2.2.2.1 o2.2.2.2.2.2.2.1 o2.2.2.2.2.2.2.2 k_x k_y k_z k_upBits k_steps k_first k_second _ _ _ h hP hS (lv_sub hl [] rfl)
  · have h := br_p c25 h
    refine lv_aload_n hx hb dX10_solveBoth_28 rfl (lv_at hl 1 rfl) ?_
    refine gf_X10_54_X_0 X hP dX10_solveBoth_29 ?_
    refine lv_iload_n hx hb dX10_solveBoth_32 rfl (lv_at hl 2 rfl) ?_
    refine lv_lload_n hx hb dX10_solveBoth_33 rfl (lv_at hl 3 rfl) ?_
    refine lv_iload hx hb dX10_solveBoth_34 (lv_at hl 0 rfl) ?_
    refine lv_lshl hx hb dX10_solveBoth_36 rfl ?_
    refine lv_lload hx hb dX10_solveBoth_37 (lv_at hl 4 rfl) ?_
    refine lv_iload hx hb dX10_solveBoth_39 (lv_at hl 0 rfl) ?_
    refine lv_lshl hx hb dX10_solveBoth_41 rfl ?_
    refine lv_lload hx hb dX10_solveBoth_42 (lv_at hl 5 rfl) ?_
    refine lv_iload hx hb dX10_solveBoth_44 (lv_at hl 0 rfl) ?_
    refine lv_lshl hx hb dX10_solveBoth_46 rfl ?_
    obtain ⟨o3, hco3, h⟩ := bd_of h
    obtain ⟨hF, hFA⟩ := fo_X_Turner_23 hP
    refine kVN (rest := []) X dX10_solveBoth_47 wd_3_149 mw_X7_solve wd_3_151 wp_3_9 hF (k0 := 0) rfl rfl rfl hS hFA (c_X7_solve hco3) rfl hl.1 rfl (Nat.le_of_ble_eq_true rfl) rfl rfl ⟨Nat.le_of_ble_eq_true rfl, Nat.le_of_ble_eq_true rfl⟩ (fun H locs hF1 _ hk hS => ?_)
    have hP := un_X_Turner_23 hP hk hF1
    refine W.eq (g2 := F0 m 50 ls [.int (bI o3.1)]) rfl ?_
    refine jx1 h (P := fun (v4 : Bool) => ∀ ls : Array Slot, lv_has ls 9 [] → W p l e rm_X10_solveBoth s m args below meth c H locs 0 0 Q (F0 m 58 ls [.int (bI v4)])) ?_ ?_
    · intro v4 h ls hl
      exact ret h hP hS dX10_solveBoth_58
    · intro J h
      refine rb_eq (tgt := 57) hx hb dX10_solveBoth_50 rfl (fun c50 => ?_) (fun c50 => ?_)
      · refine lv_iconst (v := 0) hx hb dX10_solveBoth_57 rfl ?_
        exact J _ (lt_in c50 h) ls (lv_sub hl [] rfl)
      · refine lv_iconst (v := 1) hx hb dX10_solveBoth_53 rfl ?_
        refine lv_goto (tgt := 58) hx hb dX10_solveBoth_54 rfl ?_
        exact J _ (lt_ip c50 h) ls (lv_sub hl [] rfl)
abbrev rm_X10_finest : Room := { frames := 6, cells := 0, slots := 0, locals := 162 }
set_option maxRecDepth 100000 in
set_option maxHeartbeats 4000000 in
theorem c_X10_finest {g : gT} {l : Launch} {A : Nat → Prop} {q : Nat → Nat} {z_hasUnit : Bool} {z_hasImage : Bool} {t_length : Int32} {t_bytes : Nat → Int32} {x_width : Int32} {x_guard : Int32} {x_stages : Int32} {x_fold : Int32} {x_pipe : Bool} {x_near : Bool} {s_at : Int32} {o_lines : Int32} {n_at : Int32} {o_kinds : Nat → Int32} {o_operands : Nat → Int32} {o_ties : Nat → Int32} {u_width : Int32} {u_guard : Int32} {u_bits : Int32} {u_stages : Int32} {u_places : Int32} {u_near : Bool} {u_quarter : Int64} {u_eighth : Int64} {u_ln : Int64} {u_shifts : Nat → Int32} {u_angles : Nat → Int64} {u_gains : Nat → Int64} {u_undos : Nat → Int64} {u_digits : Nat → Int32} {r_x : Int64} {r_y : Int64} {r_z : Int64} {r_upBits : Int32} {r_steps : Int32} {r_first : Int64} {r_second : Int64} {v_width : Int32} {v_guard : Int32} {v_bits : Int32} {v_stages : Int32} {v_places : Int32} {v_near : Bool} {v_quarter : Int64} {v_eighth : Int64} {v_ln : Int64} {v_shifts : Nat → Int32} {v_angles : Nat → Int64} {v_gains : Nat → Int64} {v_undos : Nat → Int64} {v_digits : Nat → Int32} {k_x : Int64} {k_y : Int64} {k_z : Int64} {k_upBits : Int32} {k_steps : Int32} {k_first : Int64} {k_second : Int64} {b_jobs : Int32} {b_over : Int32} {b_clocks : Int32} {b_held : Bool} {b_kinds : Nat → Int32} {b_operands : Nat → Int32} {b_ties : Nat → Int32} {b_states : Nat → Int32} {b_gone : Nat → Int32} {b_toldIn : Nat → Int32} {b_broughtIn : Nat → Int32} {b_doneIn : Nat → Int32} {c_jobs : Int32} {c_over : Int32} {c_clocks : Int32} {c_held : Bool} {c_kinds : Nat → Int32} {c_operands : Nat → Int32} {c_ties : Nat → Int32} {c_states : Nat → Int32} {c_gone : Nat → Int32} {c_toldIn : Nat → Int32} {c_broughtIn : Nat → Int32} {c_doneIn : Nat → Int32} {d_jobs : Int32} {d_over : Int32} {d_clocks : Int32} {d_held : Bool} {d_kinds : Nat → Int32} {d_operands : Nat → Int32} {d_ties : Nat → Int32} {d_states : Nat → Int32} {d_gone : Nat → Int32} {d_toldIn : Nat → Int32} {d_broughtIn : Nat → Int32} {d_doneIn : Nat → Int32} {z_refusals : Nat → Int32} {p0 : Int32} {p1 : Int32} {p2 : Int32} {p3 : Int32} {p4 : Int32} {o : Int32 × Int64 × Int64 × Int64 × Int32 × Int32 × Int64 × Int64 × Int64 × Int64 × Int64 × Int32 × Int32 × Int64 × Int64} (h : f_X10_finest p0 p1 p2 p3 p4 z_hasUnit u_width u_guard u_bits u_stages u_near u_quarter u_ln u_shifts u_angles u_undos u_digits r_x r_y r_z r_upBits r_steps r_first r_second v_width v_guard v_bits v_stages v_near v_quarter v_ln v_shifts v_angles v_undos v_digits k_x k_y k_z k_upBits k_steps k_first k_second = some o) : Std g l yX10_finest (.code yX10_finest cX10_finest 6 (some .int) :: gw) rm_X10_finest A [.ref (q 0), .int p0, .int p1, .int p2, .int p3, .int p4] (wX g q z_hasUnit z_hasImage t_length t_bytes x_width x_guard x_stages x_fold x_pipe x_near s_at o_lines n_at o_kinds o_operands o_ties u_width u_guard u_bits u_stages u_places u_near u_quarter u_eighth u_ln u_shifts u_angles u_gains u_undos u_digits r_x r_y r_z r_upBits r_steps r_first r_second v_width v_guard v_bits v_stages v_places v_near v_quarter v_eighth v_ln v_shifts v_angles v_gains v_undos v_digits k_x k_y k_z k_upBits k_steps k_first k_second b_jobs b_over b_clocks b_held b_kinds b_operands b_ties b_states b_gone b_toldIn b_broughtIn b_doneIn c_jobs c_over c_clocks c_held c_kinds c_operands c_ties c_states c_gone c_toldIn c_broughtIn c_doneIn d_jobs d_over d_clocks d_held d_kinds d_operands d_ties d_states d_gone d_toldIn d_broughtIn d_doneIn z_refusals) (wX g q z_hasUnit z_hasImage t_length t_bytes x_width x_guard x_stages x_fold x_pipe x_near s_at o_lines n_at o_kinds o_operands o_ties u_width u_guard u_bits u_stages u_places u_near u_quarter u_eighth u_ln u_shifts u_angles u_gains u_undos u_digits o.2.1 o.2.2.1 o.2.2.2.1 o.2.2.2.2.1 o.2.2.2.2.2.1 o.2.2.2.2.2.2.1 o.2.2.2.2.2.2.2.1 v_width v_guard v_bits v_stages v_places v_near v_quarter v_eighth v_ln v_shifts v_angles v_gains v_undos v_digits o.2.2.2.2.2.2.2.2.1 o.2.2.2.2.2.2.2.2.2.1 o.2.2.2.2.2.2.2.2.2.2.1 o.2.2.2.2.2.2.2.2.2.2.2.1 o.2.2.2.2.2.2.2.2.2.2.2.2.1 o.2.2.2.2.2.2.2.2.2.2.2.2.2.1 o.2.2.2.2.2.2.2.2.2.2.2.2.2.2 b_jobs b_over b_clocks b_held b_kinds b_operands b_ties b_states b_gone b_toldIn b_broughtIn b_doneIn c_jobs c_over c_clocks c_held c_kinds c_operands c_ties c_states c_gone c_toldIn c_broughtIn c_doneIn d_jobs d_over d_clocks d_held d_kinds d_operands d_ties d_states d_gone d_toldIn d_broughtIn d_doneIn z_refusals) (some (.int o.1)) := by
  refine std_i (own := RX10) (by decide +kernel) rfl (Nat.le_of_ble_eq_true rfl) ?_
  intro p e s m args below meth c Q X ret H locs hP hS ls hl
  have hx := X.1
  have hb := X.2.1
  have hl : lv_has ls 6 [(0, .ref (q 0)), (1, .int p0), (2, .int p1), (3, .int p2), (4, .int p3), (5, .int p4)] := hl
  have ret : ∀ {H : Heap} {locs : List Loc} {pc : Nat} {ls : Array Slot} {v : Int32} {r_x : Int64} {r_y : Int64} {r_z : Int64} {r_upBits : Int32} {r_steps : Int32} {r_first : Int64} {r_second : Int64} {k_x : Int64} {k_y : Int64} {k_z : Int64} {k_upBits : Int32} {k_steps : Int32} {k_first : Int64} {k_second : Int64}, some (v, r_x, r_y, r_z, r_upBits, r_steps, r_first, r_second, k_x, k_y, k_z, k_upBits, k_steps, k_first, k_second) = some o → WP g A (wX g q z_hasUnit z_hasImage t_length t_bytes x_width x_guard x_stages x_fold x_pipe x_near s_at o_lines n_at o_kinds o_operands o_ties u_width u_guard u_bits u_stages u_places u_near u_quarter u_eighth u_ln u_shifts u_angles u_gains u_undos u_digits r_x r_y r_z r_upBits r_steps r_first r_second v_width v_guard v_bits v_stages v_places v_near v_quarter v_eighth v_ln v_shifts v_angles v_gains v_undos v_digits k_x k_y k_z k_upBits k_steps k_first k_second b_jobs b_over b_clocks b_held b_kinds b_operands b_ties b_states b_gone b_toldIn b_broughtIn b_doneIn c_jobs c_over c_clocks c_held c_kinds c_operands c_ties c_states c_gone c_toldIn c_broughtIn c_doneIn d_jobs d_over d_clocks d_held d_kinds d_operands d_ties d_states d_gone d_toldIn d_broughtIn d_doneIn z_refusals) H → va_S A s.heap H locs → decode cX10_finest pc = .ok (.ireturn, 1) → W p l e rm_X10_finest s m args below meth c H locs 0 0 Q (F0 m pc ls [.int v]) := by
    intro H locs pc ls v r_x r_y r_z r_upBits r_steps r_first r_second k_x k_y k_z k_upBits k_steps k_first k_second h hP hS hd
    cases h
    exact ret hP hS hd
  have b31 : ∀ (r_x : Int64) (r_y : Int64) (r_z : Int64) (r_upBits : Int32) (r_steps : Int32) (r_first : Int64) (r_second : Int64) (k_x : Int64) (k_y : Int64) (k_z : Int64) (k_upBits : Int32) (k_steps : Int32) (k_first : Int64) (k_second : Int64) (H : Heap) (locs : List Loc) (ls : Array Slot), f_X10_finest_b31  z_hasUnit u_width u_guard u_bits u_stages u_near u_quarter u_ln u_shifts u_angles u_undos u_digits v_width v_guard v_bits v_stages v_near v_quarter v_ln v_shifts v_angles v_undos v_digits  r_x r_y r_z r_upBits r_steps r_first r_second k_x k_y k_z k_upBits k_steps k_first k_second = some o → WP g A (wX g q z_hasUnit z_hasImage t_length t_bytes x_width x_guard x_stages x_fold x_pipe x_near s_at o_lines n_at o_kinds o_operands o_ties u_width u_guard u_bits u_stages u_places u_near u_quarter u_eighth u_ln u_shifts u_angles u_gains u_undos u_digits r_x r_y r_z r_upBits r_steps r_first r_second v_width v_guard v_bits v_stages v_places v_near v_quarter v_eighth v_ln v_shifts v_angles v_gains v_undos v_digits k_x k_y k_z k_upBits k_steps k_first k_second b_jobs b_over b_clocks b_held b_kinds b_operands b_ties b_states b_gone b_toldIn b_broughtIn b_doneIn c_jobs c_over c_clocks c_held c_kinds c_operands c_ties c_states c_gone c_toldIn c_broughtIn c_doneIn d_jobs d_over d_clocks d_held d_kinds d_operands d_ties d_states d_gone d_toldIn d_broughtIn d_doneIn z_refusals) H → va_S A s.heap H locs → lv_has ls 6 [] → W p l e rm_X10_finest s m args below meth c H locs 0 0 Q (F0 m 31 ls []) := by
    intro  r_x r_y r_z r_upBits r_steps r_first r_second k_x k_y k_z k_upBits k_steps k_first k_second H locs ls h hP hS hl
    unfold f_X10_finest_b31 at h
    refine lv_ldc (v := (-2147483648)) hx hb X.2.2.2.1 (X.2.2.2.2.1 _ wd_3_123) dX10_finest_31 ?_
    exact ret h hP hS dX10_finest_33
  unfold f_X10_finest at h
  refine lv_aload_n hx hb dX10_finest_0 rfl (lv_at hl 0 rfl) ?_
  refine lv_iload_n hx hb dX10_finest_1 rfl (lv_at hl 1 rfl) ?_
  obtain ⟨o1, hco1, h⟩ := bd_of h
  refine kV (rest := []) X dX10_finest_2 wd_3_141 mw_X10_isKind wd_3_143 wp_3_8 hP (k0 := 0) rfl rfl rfl hS (fun _ z => z) (c_X10_isKind hco1) rfl hl.1 rfl (Nat.le_of_ble_eq_true rfl) rfl rfl ⟨Nat.le_of_ble_eq_true rfl, Nat.le_of_ble_eq_true rfl⟩ (fun H locs hP _ _ hS => ?_)
  refine W.eq (g2 := F0 m 5 ls [.int (bI o1)]) rfl ?_
  refine rb_eq (tgt := 31) hx hb dX10_finest_5 rfl (fun c5 => ?_) (fun c5 => ?_)
  · have h := br_n c5 h
    exact b31   r_x r_y r_z r_upBits r_steps r_first r_second k_x k_y k_z k_upBits k_steps k_first k_second _ _ _ h hP hS (lv_sub hl [] rfl)
  · have h := br_p c5 h
    refine lv_iload hx hb dX10_finest_8 (lv_at hl 5 rfl) ?_
    obtain ⟨o2, hco2, h⟩ := bd_of h
    refine kS (rest := []) X dX10_finest_10 wd_3_146 mw_X10_isEither wd_3_147 hP hS (fun _ z => z) (c_X10_isEither hco2) rfl hl.1 rfl (Nat.le_of_ble_eq_true rfl) rfl rfl ⟨Nat.le_of_ble_eq_true rfl, Nat.le_of_ble_eq_true rfl⟩ (fun H locs hP _ _ hS => ?_)
    refine W.eq (g2 := F0 m 13 ls [.int (bI o2)]) rfl ?_
    refine rb_eq (tgt := 31) hx hb dX10_finest_13 rfl (fun c13 => ?_) (fun c13 => ?_)
    · have h := br_n c13 h
      exact b31   r_x r_y r_z r_upBits r_steps r_first r_second k_x k_y k_z k_upBits k_steps k_first k_second _ _ _ h hP hS (lv_sub hl [] rfl)
    · have h := br_p c13 h
      refine lv_aload_n hx hb dX10_finest_16 rfl (lv_at hl 0 rfl) ?_
      refine lv_iload_n hx hb dX10_finest_17 rfl (lv_at hl 1 rfl) ?_
      refine lv_iload_n hx hb dX10_finest_18 rfl (lv_at hl 2 rfl) ?_
      refine lv_i2l hx hb dX10_finest_19 rfl ?_
      refine lv_iload_n hx hb dX10_finest_20 rfl (lv_at hl 3 rfl) ?_
      refine lv_i2l hx hb dX10_finest_21 rfl ?_
      refine lv_iload hx hb dX10_finest_22 (lv_at hl 4 rfl) ?_
      refine lv_i2l hx hb dX10_finest_24 rfl ?_
      obtain ⟨o3, hco3, h⟩ := bd_of h
      refine kV (rest := []) X dX10_finest_25 wd_4_178 mw_X10_solveBoth wd_4_180 wp_6_1 hP (k0 := 0) rfl rfl rfl hS (fun _ z => z) (c_X10_solveBoth hco3) rfl hl.1 rfl (Nat.le_of_ble_eq_true rfl) rfl rfl ⟨Nat.le_of_ble_eq_true rfl, Nat.le_of_ble_eq_true rfl⟩ (fun H locs hP _ _ hS => ?_)
      refine W.eq (g2 := F0 m 28 ls [.int (bI o3.1)]) rfl ?_
      refine rb_ne (tgt := 34) hx hb dX10_finest_28 rfl (fun c28 => ?_) (fun c28 => ?_)
      · have h := br_p c28 h
        refine lv_aload_n hx hb dX10_finest_34 rfl (lv_at hl 0 rfl) ?_
        refine gf_X10_54_X_0 X hP dX10_finest_35 ?_
        refine lv_iload hx hb dX10_finest_38 (lv_at hl 5 rfl) ?_
        obtain ⟨o4, hco4, h⟩ := bd_of h
        obtain ⟨hF, hFA⟩ := fo_X_Turner_23 hP
        refine kVN (rest := []) X dX10_finest_40 wd_4_9 mw_X7_answer wd_4_11 wp_4_10 hF (k0 := 0) rfl rfl rfl hS hFA (c_X7_answer hco4) rfl hl.1 rfl (Nat.le_of_ble_eq_true rfl) rfl rfl ⟨Nat.le_of_ble_eq_true rfl, Nat.le_of_ble_eq_true rfl⟩ (fun H locs hF1 _ hk hS => ?_)
        have hP := un_X_Turner_23 hP hk hF1
        refine W.eq (g2 := F0 m 43 ls [.long o4]) rfl ?_
        refine lv_l2i hx hb dX10_finest_43 rfl ?_
        exact ret h hP hS dX10_finest_44
      · have h := br_n c28 h
        exact b31   o3.2.1 o3.2.2.1 o3.2.2.2.1 o3.2.2.2.2.1 o3.2.2.2.2.2.1 o3.2.2.2.2.2.2.1 o3.2.2.2.2.2.2.2.1 o3.2.2.2.2.2.2.2.2.1 o3.2.2.2.2.2.2.2.2.2.1 o3.2.2.2.2.2.2.2.2.2.2.1 o3.2.2.2.2.2.2.2.2.2.2.2.1 o3.2.2.2.2.2.2.2.2.2.2.2.2.1 o3.2.2.2.2.2.2.2.2.2.2.2.2.2.1 o3.2.2.2.2.2.2.2.2.2.2.2.2.2.2 _ _ _ h hP hS (lv_sub hl [] rfl)
