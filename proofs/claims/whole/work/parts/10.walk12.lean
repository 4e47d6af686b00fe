abbrev rm_X11_mode : Room := { frames := 2, cells := 0, slots := 0, locals := 48 }
set_option maxRecDepth 100000 in
set_option maxHeartbeats 4000000 in
theorem c_X11_mode {g : gT} {l : Launch} {A : Nat → Prop} {q : Nat → Nat} {m_thrown : Int32} {m_length : Int32} {m_at : Int32} {m_fault : Int32} {m_toldWords : Int32} {m_orders : Int32} {m_value : Int32} {m_hasUnit : Bool} {m_places : Int32} {m_clocks : Int32} {m_held : Bool} {m_x : Int64} {m_y : Int64} {m_z : Int64} {m_first : Int64} {m_second : Int64} {m_aside : Int32} {m_jobs : Int32} {m_jobsImage : Int32} {m_clocksImage : Int32} {m_heldImage : Bool} {m_hasImage : Bool} {m_tape : Nat → Int32} {m_read : Nat → Int32} {m_order : Nat → Int32} {m_width : Nat → Int32} {m_guard : Nat → Int32} {m_points : Nat → Int32} {m_stages : Nat → Int32} {m_gain : Nat → Int32} {m_undo : Nat → Int32} {m_near : Nat → Bool} {m_quarter : Nat → Int64} {m_ln : Nat → Int64} {m_angle : Nat → Int64} {m_shift : Nat → Int32} {m_digit : Nat → Int32} {m_refused : Nat → Int32} {m_job : Nat → Int32} {m_jobKept : Nat → Int32} {m_result : Nat → Int32} {m_resultKept : Nat → Int32} {m_trace : Nat → Int64} {m_traceKept : Nat → Int64} {m_jobImage : Nat → Int32} {m_resultImage : Nat → Int32} {m_traceImage : Nat → Int64} {p0 : Int32} {p1 : Int32} {o : Int32 × Int32} (h : f_X11_mode p0 p1 m_thrown m_hasUnit m_points m_stages m_gain m_undo m_angle m_shift m_digit = some o) : Std g l yX11_mode (.code yX11_mode cX11_mode 3 (some .int) :: gw) rm_X11_mode A [.ref (q 0), .int p0, .int p1] (wM g q m_thrown m_length m_at m_fault m_toldWords m_orders m_value m_hasUnit m_places m_clocks m_held m_x m_y m_z m_first m_second m_aside m_jobs m_jobsImage m_clocksImage m_heldImage m_hasImage m_tape m_read m_order m_width m_guard m_points m_stages m_gain m_undo m_near m_quarter m_ln m_angle m_shift m_digit m_refused m_job m_jobKept m_result m_resultKept m_trace m_traceKept m_jobImage m_resultImage m_traceImage) (wM g q o.2 m_length m_at m_fault m_toldWords m_orders m_value m_hasUnit m_places m_clocks m_held m_x m_y m_z m_first m_second m_aside m_jobs m_jobsImage m_clocksImage m_heldImage m_hasImage m_tape m_read m_order m_width m_guard m_points m_stages m_gain m_undo m_near m_quarter m_ln m_angle m_shift m_digit m_refused m_job m_jobKept m_result m_resultKept m_trace m_traceKept m_jobImage m_resultImage m_traceImage) (some (.int o.1)) := by
  refine std_i (own := RX11) (by decide +kernel) rfl (Nat.le_of_ble_eq_true rfl) ?_
  intro p e s m args below meth c Q X ret H locs hP hS ls hl
  have hx := X.1
  have hb := X.2.1
  have hl : lv_has ls 3 [(0, .ref (q 0)), (1, .int p0), (2, .int p1)] := hl
  have ret : ∀ {H : Heap} {locs : List Loc} {pc : Nat} {ls : Array Slot} {v : Int32} {m_thrown : Int32}, some (v, m_thrown) = some o → WP g A (wM g q m_thrown m_length m_at m_fault m_toldWords m_orders m_value m_hasUnit m_places m_clocks m_held m_x m_y m_z m_first m_second m_aside m_jobs m_jobsImage m_clocksImage m_heldImage m_hasImage m_tape m_read m_order m_width m_guard m_points m_stages m_gain m_undo m_near m_quarter m_ln m_angle m_shift m_digit m_refused m_job m_jobKept m_result m_resultKept m_trace m_traceKept m_jobImage m_resultImage m_traceImage) H → va_S A s.heap H locs → decode cX11_mode pc = .ok (.ireturn, 1) → W p l e rm_X11_mode s m args below meth c H locs 0 0 Q (F0 m pc ls [.int v]) := by
    intro H locs pc ls v m_thrown h hP hS hd
    cases h
    exact ret hP hS hd
  unfold f_X11_mode at h
  refine lv_aload_n hx hb dX11_mode_0 rfl (lv_at hl 0 rfl) ?_
  refine lv_iconst (v := 0) hx hb dX11_mode_1 rfl ?_
  refine pf_X11_5_M_0 (v0 := (0 : Int32)) X hP hS dX11_mode_2 (fun H locs hP hS => ?_)
  refine lv_aload_n hx hb dX11_mode_5 rfl (lv_at hl 0 rfl) ?_
  refine lv_iload_n hx hb dX11_mode_6 rfl (lv_at hl 1 rfl) ?_
  obtain ⟨o1, hco1, h⟩ := bd_of h
  refine kV (rest := []) X dX11_mode_7 wd_6_147 mw_X11_isMode wd_6_149 wp_7_11 hP (k0 := 0) rfl rfl rfl hS (fun _ z => z) (c_X11_isMode hco1) rfl hl.1 rfl (Nat.le_of_ble_eq_true rfl) rfl rfl ⟨Nat.le_of_ble_eq_true rfl, Nat.le_of_ble_eq_true rfl⟩ (fun H locs hP _ _ hS => ?_)
  refine W.eq (g2 := F0 m 10 ls [.int (bI o1)]) rfl ?_
  refine rb_ne (tgt := 15) hx hb dX11_mode_10 rfl (fun c10 => ?_) (fun c10 => ?_)
  · have h := br_p c10 h
    refine lv_iload_n hx hb dX11_mode_15 rfl (lv_at hl 2 rfl) ?_
    by_cases c16_0 : p1 = 0
    · have h := br_p c16_0 h
      refine lv_tableIn (off := 36) (tgt := 52) hx hb dX11_mode_16 (by rw [c16_0]; decide) (by rw [c16_0]; decide) (by rw [c16_0]; rfl) rfl ?_
      refine lv_aload_n hx hb dX11_mode_52 rfl (lv_at hl 0 rfl) ?_
      refine gf_X11_183_M_0 X hP dX11_mode_53 ?_
      refine lv_iload_n hx hb dX11_mode_56 rfl (lv_at hl 1 rfl) ?_
      obtain ⟨hi57, h⟩ := gv_of h
      refine al_M_8 X hP hi57 dX11_mode_57 ?_
      exact ret h hP hS dX11_mode_58
    have h := br_n c16_0 h
    by_cases c16_1 : p1 = 1
    · have h := br_p c16_1 h
      refine lv_tableIn (off := 43) (tgt := 59) hx hb dX11_mode_16 (by rw [c16_1]; decide) (by rw [c16_1]; decide) (by rw [c16_1]; rfl) rfl ?_
      refine lv_aload_n hx hb dX11_mode_59 rfl (lv_at hl 0 rfl) ?_
      refine gf_X11_186_M_0 X hP dX11_mode_60 ?_
      refine lv_iload_n hx hb dX11_mode_63 rfl (lv_at hl 1 rfl) ?_
      obtain ⟨hi64, h⟩ := gv_of h
      refine al_M_9 X hP hi64 dX11_mode_64 ?_
      exact ret h hP hS dX11_mode_65
    have h := br_n c16_1 h
    by_cases c16_2 : p1 = 2
    · have h := br_p c16_2 h
      refine lv_tableIn (off := 50) (tgt := 66) hx hb dX11_mode_16 (by rw [c16_2]; decide) (by rw [c16_2]; decide) (by rw [c16_2]; rfl) rfl ?_
      refine lv_aload_n hx hb dX11_mode_66 rfl (lv_at hl 0 rfl) ?_
      refine lv_iload_n hx hb dX11_mode_67 rfl (lv_at hl 1 rfl) ?_
      obtain ⟨o2, hco2, h⟩ := bd_of h
      refine kV (rest := []) X dX11_mode_68 wd_6_159 mw_X11_digitsIn wd_6_161 wp_7_13 hP (k0 := 0) rfl rfl rfl hS (fun _ z => z) (c_X11_digitsIn hco2) rfl hl.1 rfl (Nat.le_of_ble_eq_true rfl) rfl rfl ⟨Nat.le_of_ble_eq_true rfl, Nat.le_of_ble_eq_true rfl⟩ (fun H locs hP _ _ hS => ?_)
      refine W.eq (g2 := F0 m 71 ls [.int o2]) rfl ?_
      exact ret h hP hS dX11_mode_71
    have h := br_n c16_2 h
    by_cases c16_3 : p1 = 3
    · have h := br_p c16_3 h
      refine lv_tableIn (off := 56) (tgt := 72) hx hb dX11_mode_16 (by rw [c16_3]; decide) (by rw [c16_3]; decide) (by rw [c16_3]; rfl) rfl ?_
      refine lv_aload_n hx hb dX11_mode_72 rfl (lv_at hl 0 rfl) ?_
      refine lv_iload_n hx hb dX11_mode_73 rfl (lv_at hl 1 rfl) ?_
      obtain ⟨o3, hco3, h⟩ := bd_of h
      refine kV (rest := []) X dX11_mode_74 wd_6_163 mw_X11_words wd_6_165 wp_7_14 hP (k0 := 0) rfl rfl rfl hS (fun _ z => z) (c_X11_words hco3) rfl hl.1 rfl (Nat.le_of_ble_eq_true rfl) rfl rfl ⟨Nat.le_of_ble_eq_true rfl, Nat.le_of_ble_eq_true rfl⟩ (fun H locs hP _ _ hS => ?_)
      refine W.eq (g2 := F0 m 77 ls [.int o3]) rfl ?_
      exact ret h hP hS dX11_mode_77
    have h := br_n c16_3 h
    by_cases c16_4 : p1 = 4
    · have h := br_p c16_4 h
      refine lv_tableIn (off := 62) (tgt := 78) hx hb dX11_mode_16 (by rw [c16_4]; decide) (by rw [c16_4]; decide) (by rw [c16_4]; rfl) rfl ?_
      refine lv_aload_n hx hb dX11_mode_78 rfl (lv_at hl 0 rfl) ?_
      refine lv_iload_n hx hb dX11_mode_79 rfl (lv_at hl 1 rfl) ?_
      obtain ⟨o4, hco4, h⟩ := bd_of h
      refine kV (rest := []) X dX11_mode_80 wd_6_167 mw_X11_wordlessFrom wd_6_169 wp_7_15 hP (k0 := 0) rfl rfl rfl hS (fun _ z => z) (c_X11_wordlessFrom hco4) rfl hl.1 rfl (Nat.le_of_ble_eq_true rfl) rfl rfl ⟨Nat.le_of_ble_eq_true rfl, Nat.le_of_ble_eq_true rfl⟩ (fun H locs hP _ _ hS => ?_)
      refine W.eq (g2 := F0 m 83 ls [.int o4]) rfl ?_
      exact ret h hP hS dX11_mode_83
    have h := br_n c16_4 h
    refine lv_tableOut (tgt := 84) hx hb dX11_mode_16 (by have := lv_neT (a := 0) c16_0 rfl; have := lv_neT (a := 1) c16_1 rfl; have := lv_neT (a := 2) c16_2 rfl; have := lv_neT (a := 3) c16_3 rfl; have := lv_neT (a := 4) c16_4 rfl; omega) rfl ?_
    refine lv_iconst (v := (-1)) hx hb dX11_mode_84 rfl ?_
    exact ret h hP hS dX11_mode_85
  · have h := br_n c10 h
    refine lv_iconst (v := (-1)) hx hb dX11_mode_13 rfl ?_
    exact ret h hP hS dX11_mode_14
abbrev rm_X11_digit : Room := { frames := 2, cells := 0, slots := 0, locals := 46 }
set_option maxRecDepth 100000 in
set_option maxHeartbeats 4000000 in
theorem c_X11_digit {g : gT} {l : Launch} {A : Nat → Prop} {q : Nat → Nat} {m_thrown : Int32} {m_length : Int32} {m_at : Int32} {m_fault : Int32} {m_toldWords : Int32} {m_orders : Int32} {m_value : Int32} {m_hasUnit : Bool} {m_places : Int32} {m_clocks : Int32} {m_held : Bool} {m_x : Int64} {m_y : Int64} {m_z : Int64} {m_first : Int64} {m_second : Int64} {m_aside : Int32} {m_jobs : Int32} {m_jobsImage : Int32} {m_clocksImage : Int32} {m_heldImage : Bool} {m_hasImage : Bool} {m_tape : Nat → Int32} {m_read : Nat → Int32} {m_order : Nat → Int32} {m_width : Nat → Int32} {m_guard : Nat → Int32} {m_points : Nat → Int32} {m_stages : Nat → Int32} {m_gain : Nat → Int32} {m_undo : Nat → Int32} {m_near : Nat → Bool} {m_quarter : Nat → Int64} {m_ln : Nat → Int64} {m_angle : Nat → Int64} {m_shift : Nat → Int32} {m_digit : Nat → Int32} {m_refused : Nat → Int32} {m_job : Nat → Int32} {m_jobKept : Nat → Int32} {m_result : Nat → Int32} {m_resultKept : Nat → Int32} {m_trace : Nat → Int64} {m_traceKept : Nat → Int64} {m_jobImage : Nat → Int32} {m_resultImage : Nat → Int32} {m_traceImage : Nat → Int64} {p0 : Int32} {p1 : Int32} {o : Int32 × Int32} (h : f_X11_digit p0 p1 m_thrown m_hasUnit m_digit = some o) : Std g l yX11_digit (.code yX11_digit cX11_digit 3 (some .int) :: gw) rm_X11_digit A [.ref (q 0), .int p0, .int p1] (wM g q m_thrown m_length m_at m_fault m_toldWords m_orders m_value m_hasUnit m_places m_clocks m_held m_x m_y m_z m_first m_second m_aside m_jobs m_jobsImage m_clocksImage m_heldImage m_hasImage m_tape m_read m_order m_width m_guard m_points m_stages m_gain m_undo m_near m_quarter m_ln m_angle m_shift m_digit m_refused m_job m_jobKept m_result m_resultKept m_trace m_traceKept m_jobImage m_resultImage m_traceImage) (wM g q o.2 m_length m_at m_fault m_toldWords m_orders m_value m_hasUnit m_places m_clocks m_held m_x m_y m_z m_first m_second m_aside m_jobs m_jobsImage m_clocksImage m_heldImage m_hasImage m_tape m_read m_order m_width m_guard m_points m_stages m_gain m_undo m_near m_quarter m_ln m_angle m_shift m_digit m_refused m_job m_jobKept m_result m_resultKept m_trace m_traceKept m_jobImage m_resultImage m_traceImage) (some (.int o.1)) := by
  refine std_i (own := RX11) (by decide +kernel) rfl (Nat.le_of_ble_eq_true rfl) ?_
  intro p e s m args below meth c Q X ret H locs hP hS ls hl
  have hx := X.1
  have hb := X.2.1
  have hl : lv_has ls 3 [(0, .ref (q 0)), (1, .int p0), (2, .int p1)] := hl
  have ret : ∀ {H : Heap} {locs : List Loc} {pc : Nat} {ls : Array Slot} {v : Int32} {m_thrown : Int32}, some (v, m_thrown) = some o → WP g A (wM g q m_thrown m_length m_at m_fault m_toldWords m_orders m_value m_hasUnit m_places m_clocks m_held m_x m_y m_z m_first m_second m_aside m_jobs m_jobsImage m_clocksImage m_heldImage m_hasImage m_tape m_read m_order m_width m_guard m_points m_stages m_gain m_undo m_near m_quarter m_ln m_angle m_shift m_digit m_refused m_job m_jobKept m_result m_resultKept m_trace m_traceKept m_jobImage m_resultImage m_traceImage) H → va_S A s.heap H locs → decode cX11_digit pc = .ok (.ireturn, 1) → W p l e rm_X11_digit s m args below meth c H locs 0 0 Q (F0 m pc ls [.int v]) := by
    intro H locs pc ls v m_thrown h hP hS hd
    cases h
    exact ret hP hS hd
  have b39 : ∀ (m_thrown : Int32) (H : Heap) (locs : List Loc) (ls : Array Slot), f_X11_digit_b39  m_hasUnit m_digit  m_thrown = some o → WP g A (wM g q m_thrown m_length m_at m_fault m_toldWords m_orders m_value m_hasUnit m_places m_clocks m_held m_x m_y m_z m_first m_second m_aside m_jobs m_jobsImage m_clocksImage m_heldImage m_hasImage m_tape m_read m_order m_width m_guard m_points m_stages m_gain m_undo m_near m_quarter m_ln m_angle m_shift m_digit m_refused m_job m_jobKept m_result m_resultKept m_trace m_traceKept m_jobImage m_resultImage m_traceImage) H → va_S A s.heap H locs → lv_has ls 3 [] → W p l e rm_X11_digit s m args below meth c H locs 0 0 Q (F0 m 39 ls []) := by
    intro  m_thrown H locs ls h hP hS hl
    unfold f_X11_digit_b39 at h
    refine lv_ldcw (v := (-2147483648)) hx hb X.2.2.2.1 (X.2.2.2.2.1 _ wd_6_176) dX11_digit_39 ?_
    exact ret h hP hS dX11_digit_42
  unfold f_X11_digit at h
  refine lv_aload_n hx hb dX11_digit_0 rfl (lv_at hl 0 rfl) ?_
  refine lv_iconst (v := 0) hx hb dX11_digit_1 rfl ?_
  refine pf_X11_5_M_0 (v0 := (0 : Int32)) X hP hS dX11_digit_2 (fun H locs hP hS => ?_)
  refine lv_aload_n hx hb dX11_digit_5 rfl (lv_at hl 0 rfl) ?_
  refine lv_iload_n hx hb dX11_digit_6 rfl (lv_at hl 1 rfl) ?_
  obtain ⟨o1, hco1, h⟩ := bd_of h
  refine kV (rest := []) X dX11_digit_7 wd_6_147 mw_X11_isMode wd_6_149 wp_7_11 hP (k0 := 0) rfl rfl rfl hS (fun _ z => z) (c_X11_isMode hco1) rfl hl.1 rfl (Nat.le_of_ble_eq_true rfl) rfl rfl ⟨Nat.le_of_ble_eq_true rfl, Nat.le_of_ble_eq_true rfl⟩ (fun H locs hP _ _ hS => ?_)
  refine W.eq (g2 := F0 m 10 ls [.int (bI o1)]) rfl ?_
  refine rb_eq (tgt := 39) hx hb dX11_digit_10 rfl (fun c10 => ?_) (fun c10 => ?_)
  · have h := br_n c10 h
    exact b39   (0 : Int32) _ _ _ h hP hS (lv_sub hl [] rfl)
  · have h := br_p c10 h
    refine lv_iload_n hx hb dX11_digit_13 rfl (lv_at hl 2 rfl) ?_
    refine lv_i2l hx hb dX11_digit_14 rfl ?_
    refine lv_lconst (v := 0) hx hb dX11_digit_15 rfl ?_
    refine lv_ldc2 (v := 31) hx hb X.2.2.2.1 (X.2.2.2.2.1 _ wd_6_175) dX11_digit_16 ?_
    obtain ⟨o2, hco2, h⟩ := bd_of h
    refine kS (rest := []) X dX11_digit_19 wd_5_153 mw_X11_isIn wd_5_154 hP hS (fun _ z => z) (c_X11_isIn hco2) rfl hl.1 rfl (Nat.le_of_ble_eq_true rfl) rfl rfl ⟨Nat.le_of_ble_eq_true rfl, Nat.le_of_ble_eq_true rfl⟩ (fun H locs hP _ _ hS => ?_)
    refine W.eq (g2 := F0 m 22 ls [.int (bI o2)]) rfl ?_
    refine rb_eq (tgt := 39) hx hb dX11_digit_22 rfl (fun c22 => ?_) (fun c22 => ?_)
    · have h := br_n c22 h
      exact b39   (0 : Int32) _ _ _ h hP hS (lv_sub hl [] rfl)
    · have h := br_p c22 h
      refine lv_aload_n hx hb dX11_digit_25 rfl (lv_at hl 0 rfl) ?_
      refine gf_X11_189_M_0 X hP dX11_digit_26 ?_
      refine lv_bipush (v := 32) hx hb dX11_digit_29 rfl ?_
      refine lv_iload_n hx hb dX11_digit_31 rfl (lv_at hl 1 rfl) ?_
      refine lv_imul hx hb dX11_digit_32 ?_
      refine lv_iload_n hx hb dX11_digit_33 rfl (lv_at hl 2 rfl) ?_
      refine lv_iadd hx hb dX11_digit_34 ?_
      obtain ⟨hi35, h⟩ := gv_of h
      refine al_M_15 X hP hi35 dX11_digit_35 ?_
      refine lv_goto (tgt := 42) hx hb dX11_digit_36 rfl ?_
      exact ret h hP hS dX11_digit_42
abbrev rm_X11_shifted : Room := { frames := 0, cells := 0, slots := 0, locals := 0 }
set_option maxRecDepth 100000 in
set_option maxHeartbeats 4000000 in
theorem c_X11_shifted {g : gT} {l : Launch} {A : Nat → Prop} {q : Nat → Nat} {m_thrown : Int32} {m_length : Int32} {m_at : Int32} {m_fault : Int32} {m_toldWords : Int32} {m_orders : Int32} {m_value : Int32} {m_hasUnit : Bool} {m_places : Int32} {m_clocks : Int32} {m_held : Bool} {m_x : Int64} {m_y : Int64} {m_z : Int64} {m_first : Int64} {m_second : Int64} {m_aside : Int32} {m_jobs : Int32} {m_jobsImage : Int32} {m_clocksImage : Int32} {m_heldImage : Bool} {m_hasImage : Bool} {m_tape : Nat → Int32} {m_read : Nat → Int32} {m_order : Nat → Int32} {m_width : Nat → Int32} {m_guard : Nat → Int32} {m_points : Nat → Int32} {m_stages : Nat → Int32} {m_gain : Nat → Int32} {m_undo : Nat → Int32} {m_near : Nat → Bool} {m_quarter : Nat → Int64} {m_ln : Nat → Int64} {m_angle : Nat → Int64} {m_shift : Nat → Int32} {m_digit : Nat → Int32} {m_refused : Nat → Int32} {m_job : Nat → Int32} {m_jobKept : Nat → Int32} {m_result : Nat → Int32} {m_resultKept : Nat → Int32} {m_trace : Nat → Int64} {m_traceKept : Nat → Int64} {m_jobImage : Nat → Int32} {m_resultImage : Nat → Int32} {m_traceImage : Nat → Int64} {p0 : Int32} {p1 : Int64} {p2 : Int32} {o : Int64} (h : f_X11_shifted p0 p1 p2 m_near = some o) : Std g l yX11_shifted (.code yX11_shifted cX11_shifted 5 (some .long) :: gw) rm_X11_shifted A [.ref (q 0), .int p0, .long p1, .int p2] (wM g q m_thrown m_length m_at m_fault m_toldWords m_orders m_value m_hasUnit m_places m_clocks m_held m_x m_y m_z m_first m_second m_aside m_jobs m_jobsImage m_clocksImage m_heldImage m_hasImage m_tape m_read m_order m_width m_guard m_points m_stages m_gain m_undo m_near m_quarter m_ln m_angle m_shift m_digit m_refused m_job m_jobKept m_result m_resultKept m_trace m_traceKept m_jobImage m_resultImage m_traceImage) (wM g q m_thrown m_length m_at m_fault m_toldWords m_orders m_value m_hasUnit m_places m_clocks m_held m_x m_y m_z m_first m_second m_aside m_jobs m_jobsImage m_clocksImage m_heldImage m_hasImage m_tape m_read m_order m_width m_guard m_points m_stages m_gain m_undo m_near m_quarter m_ln m_angle m_shift m_digit m_refused m_job m_jobKept m_result m_resultKept m_trace m_traceKept m_jobImage m_resultImage m_traceImage) (some (.long o)) := by
  refine std_l (own := RX11) (by decide +kernel) rfl (Nat.le_of_ble_eq_true rfl) ?_
  intro p e s m args below meth c Q X ret H locs hP hS ls hl
  have hx := X.1
  have hb := X.2.1
  have hl : lv_has ls 5 [(0, .ref (q 0)), (1, .int p0), (2, .long p1), (4, .int p2)] := hl
  have ret : ∀ {H : Heap} {locs : List Loc} {pc : Nat} {ls : Array Slot} {v : Int64} , some (v) = some o → WP g A (wM g q m_thrown m_length m_at m_fault m_toldWords m_orders m_value m_hasUnit m_places m_clocks m_held m_x m_y m_z m_first m_second m_aside m_jobs m_jobsImage m_clocksImage m_heldImage m_hasImage m_tape m_read m_order m_width m_guard m_points m_stages m_gain m_undo m_near m_quarter m_ln m_angle m_shift m_digit m_refused m_job m_jobKept m_result m_resultKept m_trace m_traceKept m_jobImage m_resultImage m_traceImage) H → va_S A s.heap H locs → decode cX11_shifted pc = .ok (.lreturn, 1) → W p l e rm_X11_shifted s m args below meth c H locs 0 0 Q (F0 m pc ls [.long v]) := by
    intro H locs pc ls v h hP hS hd
    cases h
    exact ret hP hS hd
  unfold f_X11_shifted at h
  refine lv_iload hx hb dX11_shifted_0 (lv_at hl 3 rfl) ?_
  refine lv_if_ne (tgt := 7) hx hb dX11_shifted_2 rfl (fun c2 => ?_) (fun c2 => ?_)
  · have h := br_n c2 h
    refine lv_aload_n hx hb dX11_shifted_7 rfl (lv_at hl 0 rfl) ?_
    refine gf_X11_196_M_0 X hP dX11_shifted_8 ?_
    refine lv_iload_n hx hb dX11_shifted_11 rfl (lv_at hl 1 rfl) ?_
    obtain ⟨hi12, h⟩ := gv_of h
    refine al_M_10 X hP hi12 dX11_shifted_12 ?_
    refine jx1 h (P := fun (v1 : Int64) => ∀ ls : Array Slot, lv_has ls 5 [] → W p l e rm_X11_shifted s m args below meth c H locs 0 0 Q (F0 m 34 ls [.long v1])) ?_ ?_
    · intro v1 h ls hl
      exact ret h hP hS dX11_shifted_34
    · intro J h
      refine rb_eq (tgt := 30) hx hb dX11_shifted_13 rfl (fun c13 => ?_) (fun c13 => ?_)
      · refine lv_lload_n hx hb dX11_shifted_30 rfl (lv_at hl 2 rfl) ?_
        refine lv_iload hx hb dX11_shifted_31 (lv_at hl 3 rfl) ?_
        refine lv_lshr hx hb dX11_shifted_33 rfl ?_
        exact J _ (lt_in c13 h) ls (lv_sub hl [] rfl)
      · refine lv_lload_n hx hb dX11_shifted_16 rfl (lv_at hl 2 rfl) ?_
        refine lv_lconst (v := 1) hx hb dX11_shifted_17 rfl ?_
        refine lv_iload hx hb dX11_shifted_18 (lv_at hl 3 rfl) ?_
        refine lv_iconst (v := 1) hx hb dX11_shifted_20 rfl ?_
        refine lv_isub hx hb dX11_shifted_21 ?_
        refine lv_lshl hx hb dX11_shifted_22 rfl ?_
        refine lv_ladd hx hb dX11_shifted_23 ?_
        refine lv_iload hx hb dX11_shifted_24 (lv_at hl 3 rfl) ?_
        refine lv_lshr hx hb dX11_shifted_26 rfl ?_
        refine lv_goto (tgt := 34) hx hb dX11_shifted_27 rfl ?_
        exact J _ (lt_ip c13 h) ls (lv_sub hl [] rfl)
  · have h := br_p c2 h
    refine lv_lload_n hx hb dX11_shifted_5 rfl (lv_at hl 2 rfl) ?_
    exact ret h hP hS dX11_shifted_6
abbrev rm_X11_takenOut : Room := { frames := 1, cells := 0, slots := 0, locals := 24 }
set_option maxRecDepth 100000 in
set_option maxHeartbeats 4000000 in
theorem c_X11_takenOut {g : gT} {l : Launch} {A : Nat → Prop} {q : Nat → Nat} {m_thrown : Int32} {m_length : Int32} {m_at : Int32} {m_fault : Int32} {m_toldWords : Int32} {m_orders : Int32} {m_value : Int32} {m_hasUnit : Bool} {m_places : Int32} {m_clocks : Int32} {m_held : Bool} {m_x : Int64} {m_y : Int64} {m_z : Int64} {m_first : Int64} {m_second : Int64} {m_aside : Int32} {m_jobs : Int32} {m_jobsImage : Int32} {m_clocksImage : Int32} {m_heldImage : Bool} {m_hasImage : Bool} {m_tape : Nat → Int32} {m_read : Nat → Int32} {m_order : Nat → Int32} {m_width : Nat → Int32} {m_guard : Nat → Int32} {m_points : Nat → Int32} {m_stages : Nat → Int32} {m_gain : Nat → Int32} {m_undo : Nat → Int32} {m_near : Nat → Bool} {m_quarter : Nat → Int64} {m_ln : Nat → Int64} {m_angle : Nat → Int64} {m_shift : Nat → Int32} {m_digit : Nat → Int32} {m_refused : Nat → Int32} {m_job : Nat → Int32} {m_jobKept : Nat → Int32} {m_result : Nat → Int32} {m_resultKept : Nat → Int32} {m_trace : Nat → Int64} {m_traceKept : Nat → Int64} {m_jobImage : Nat → Int32} {m_resultImage : Nat → Int32} {m_traceImage : Nat → Int64} {p0 : Int32} {p1 : Int32} {p2 : Int64} {o : Int64} (h : f_X11_takenOut p0 p1 p2 m_points m_near m_digit = some o) : Std g l yX11_takenOut (.code yX11_takenOut cX11_takenOut 11 (some .long) :: gw) rm_X11_takenOut A [.ref (q 0), .int p0, .int p1, .long p2] (wM g q m_thrown m_length m_at m_fault m_toldWords m_orders m_value m_hasUnit m_places m_clocks m_held m_x m_y m_z m_first m_second m_aside m_jobs m_jobsImage m_clocksImage m_heldImage m_hasImage m_tape m_read m_order m_width m_guard m_points m_stages m_gain m_undo m_near m_quarter m_ln m_angle m_shift m_digit m_refused m_job m_jobKept m_result m_resultKept m_trace m_traceKept m_jobImage m_resultImage m_traceImage) (wM g q m_thrown m_length m_at m_fault m_toldWords m_orders m_value m_hasUnit m_places m_clocks m_held m_x m_y m_z m_first m_second m_aside m_jobs m_jobsImage m_clocksImage m_heldImage m_hasImage m_tape m_read m_order m_width m_guard m_points m_stages m_gain m_undo m_near m_quarter m_ln m_angle m_shift m_digit m_refused m_job m_jobKept m_result m_resultKept m_trace m_traceKept m_jobImage m_resultImage m_traceImage) (some (.long o)) := by
  refine std_l (own := RX11) (by decide +kernel) rfl (Nat.le_of_ble_eq_true rfl) ?_
  intro p e s m args below meth c Q X ret H locs hP hS ls hl
  have hx := X.1
  have hb := X.2.1
  have hl : lv_has ls 11 [(0, .ref (q 0)), (1, .int p0), (2, .int p1), (3, .long p2)] := hl
  have ret : ∀ {H : Heap} {locs : List Loc} {pc : Nat} {ls : Array Slot} {v : Int64} , some (v) = some o → WP g A (wM g q m_thrown m_length m_at m_fault m_toldWords m_orders m_value m_hasUnit m_places m_clocks m_held m_x m_y m_z m_first m_second m_aside m_jobs m_jobsImage m_clocksImage m_heldImage m_hasImage m_tape m_read m_order m_width m_guard m_points m_stages m_gain m_undo m_near m_quarter m_ln m_angle m_shift m_digit m_refused m_job m_jobKept m_result m_resultKept m_trace m_traceKept m_jobImage m_resultImage m_traceImage) H → va_S A s.heap H locs → decode cX11_takenOut pc = .ok (.lreturn, 1) → W p l e rm_X11_takenOut s m args below meth c H locs 0 0 Q (F0 m pc ls [.long v]) := by
    intro H locs pc ls v h hP hS hd
    cases h
    exact ret hP hS hd
  have b100 : ∀ (k6 : Int32 → Int32 → Int64 → Int64 → Int32 → Option (Int64)) (hk6 : ∀ (x1 : Int32) (x2 : Int32) (x3 : Int64) (x5 : Int64) (x7 : Int32) (H : Heap) (locs : List Loc) (ls : Array Slot), k6 x1 x2 x3 x5 x7 = some o → WP g A (wM g q m_thrown m_length m_at m_fault m_toldWords m_orders m_value m_hasUnit m_places m_clocks m_held m_x m_y m_z m_first m_second m_aside m_jobs m_jobsImage m_clocksImage m_heldImage m_hasImage m_tape m_read m_order m_width m_guard m_points m_stages m_gain m_undo m_near m_quarter m_ln m_angle m_shift m_digit m_refused m_job m_jobKept m_result m_resultKept m_trace m_traceKept m_jobImage m_resultImage m_traceImage) H → va_S A s.heap H locs → lv_has ls 11 [(0, .ref (q 0)), (1, .int x1), (2, .int x2), (3, .long x3), (5, .long x5), (7, .int x7)] → W p l e rm_X11_takenOut s m args below meth c H locs 0 0 Q (F0 m 6 ls [])) , ∀ (x1 : Int32) (x2 : Int32) (x3 : Int64) (x5 : Int64) (x7 : Int32) (H : Heap) (locs : List Loc) (ls : Array Slot), f_X11_takenOut_b100  m_points m_near m_digit k6 x1 x2 x3 x5 x7 = some o → WP g A (wM g q m_thrown m_length m_at m_fault m_toldWords m_orders m_value m_hasUnit m_places m_clocks m_held m_x m_y m_z m_first m_second m_aside m_jobs m_jobsImage m_clocksImage m_heldImage m_hasImage m_tape m_read m_order m_width m_guard m_points m_stages m_gain m_undo m_near m_quarter m_ln m_angle m_shift m_digit m_refused m_job m_jobKept m_result m_resultKept m_trace m_traceKept m_jobImage m_resultImage m_traceImage) H → va_S A s.heap H locs → lv_has ls 11 [(0, .ref (q 0)), (1, .int x1), (2, .int x2), (3, .long x3), (5, .long x5), (7, .int x7)] → W p l e rm_X11_takenOut s m args below meth c H locs 0 0 Q (F0 m 100 ls []) := by
    intro k6 hk6 x1 x2 x3 x5 x7 H locs ls h hP hS hl
    unfold f_X11_takenOut_b100 at h
    obtain ⟨v6, ev6⟩ : ∃ z : Int32, z = (x7 + 1) := ⟨_, rfl⟩
    have h := lt_at ev6 h
    refine lv_iinc (v := v6) (lv' := [(7, .int v6), (0, .ref (q 0)), (1, .int x1), (2, .int x2), (3, .long x3), (5, .long x5)]) hx hb dX11_takenOut_100 hl (k := 5) rfl (by rw [ev6]; rfl) (by decide) rfl (fun ls hl => ?_)
    refine lv_goto (tgt := 6) hx hb dX11_takenOut_103 rfl ?_
    exact hk6 x1 x2 x3 x5 v6 _ _ _ h hP hS (lv_sub hl [1, 2, 3, 4, 5, 0] rfl)
  have b80 : ∀ (k6 : Int32 → Int32 → Int64 → Int64 → Int32 → Option (Int64)) (hk6 : ∀ (x1 : Int32) (x2 : Int32) (x3 : Int64) (x5 : Int64) (x7 : Int32) (H : Heap) (locs : List Loc) (ls : Array Slot), k6 x1 x2 x3 x5 x7 = some o → WP g A (wM g q m_thrown m_length m_at m_fault m_toldWords m_orders m_value m_hasUnit m_places m_clocks m_held m_x m_y m_z m_first m_second m_aside m_jobs m_jobsImage m_clocksImage m_heldImage m_hasImage m_tape m_read m_order m_width m_guard m_points m_stages m_gain m_undo m_near m_quarter m_ln m_angle m_shift m_digit m_refused m_job m_jobKept m_result m_resultKept m_trace m_traceKept m_jobImage m_resultImage m_traceImage) H → va_S A s.heap H locs → lv_has ls 11 [(0, .ref (q 0)), (1, .int x1), (2, .int x2), (3, .long x3), (5, .long x5), (7, .int x7)] → W p l e rm_X11_takenOut s m args below meth c H locs 0 0 Q (F0 m 6 ls [])) , ∀ (x1 : Int32) (x2 : Int32) (x3 : Int64) (x5 : Int64) (x7 : Int32) (x8 : Int32) (t0 : Int64) (H : Heap) (locs : List Loc) (ls : Array Slot), f_X11_takenOut_b80  m_points m_near m_digit k6 x1 x2 x3 x5 x7 x8 t0 = some o → WP g A (wM g q m_thrown m_length m_at m_fault m_toldWords m_orders m_value m_hasUnit m_places m_clocks m_held m_x m_y m_z m_first m_second m_aside m_jobs m_jobsImage m_clocksImage m_heldImage m_hasImage m_tape m_read m_order m_width m_guard m_points m_stages m_gain m_undo m_near m_quarter m_ln m_angle m_shift m_digit m_refused m_job m_jobKept m_result m_resultKept m_trace m_traceKept m_jobImage m_resultImage m_traceImage) H → va_S A s.heap H locs → lv_has ls 11 [(0, .ref (q 0)), (1, .int x1), (2, .int x2), (3, .long x3), (5, .long x5), (7, .int x7), (8, .int x8)] → W p l e rm_X11_takenOut s m args below meth c H locs 0 0 Q (F0 m 80 ls [.long t0]) := by
    intro k6 hk6 x1 x2 x3 x5 x7 x8 t0 H locs ls h hP hS hl
    unfold f_X11_takenOut_b80 at h
    refine lv_lstore (lv' := [(9, .long t0), (0, .ref (q 0)), (1, .int x1), (2, .int x2), (3, .long x3), (5, .long x5), (7, .int x7), (8, .int x8)]) hx hb dX11_takenOut_80 hl (by decide) rfl (fun ls hl => ?_)
    refine lv_lload hx hb dX11_takenOut_82 (lv_at hl 5 rfl) ?_
    refine lv_iload hx hb dX11_takenOut_84 (lv_at hl 7 rfl) ?_
    refine jx1 h (P := fun (v4 : Int64) => ∀ ls : Array Slot, lv_has ls 11 [(0, .ref (q 0)), (1, .int x1), (2, .int x2), (3, .long x3), (7, .int x7)] → W p l e rm_X11_takenOut s m args below meth c H locs 0 0 Q (F0 m 97 ls [.long v4, .long x5])) ?_ ?_
    · intro v4 h ls hl
      refine lv_ladd hx hb dX11_takenOut_97 ?_
      refine lv_topl (fun v5 ev5 => ?_)
      have h := lt_at ev5 h
      refine lv_lstore (lv' := [(5, .long v5), (0, .ref (q 0)), (1, .int x1), (2, .int x2), (3, .long x3), (7, .int x7)]) hx hb dX11_takenOut_98 hl (by decide) rfl (fun ls hl => ?_)
      exact b100 k6 hk6  x1 x2 x3 v5 x7 _ _ _ h hP hS (lv_sub hl [1, 2, 3, 4, 0, 5] rfl)
    · intro J h
      refine lv_if_le (tgt := 94) hx hb dX11_takenOut_86 rfl (fun c86 => ?_) (fun c86 => ?_)
      · refine lv_lload hx hb dX11_takenOut_94 (lv_at hl 0 rfl) ?_
        refine lv_lneg hx hb dX11_takenOut_96 ?_
        exact J _ (lt_ip c86 h) ls (lv_sub hl [1, 2, 3, 4, 6] rfl)
      · refine lv_lload hx hb dX11_takenOut_89 (lv_at hl 0 rfl) ?_
        refine lv_goto (tgt := 97) hx hb dX11_takenOut_91 rfl ?_
        exact J _ (lt_in c86 h) ls (lv_sub hl [1, 2, 3, 4, 6] rfl)
  have l6 : ∀ (n : Nat), ∀ (x1 : Int32) (x2 : Int32) (x3 : Int64) (x5 : Int64) (x7 : Int32) (H : Heap) (locs : List Loc) (ls : Array Slot), f_X11_takenOut_l6  m_points m_near m_digit  n x1 x2 x3 x5 x7 = some o → WP g A (wM g q m_thrown m_length m_at m_fault m_toldWords m_orders m_value m_hasUnit m_places m_clocks m_held m_x m_y m_z m_first m_second m_aside m_jobs m_jobsImage m_clocksImage m_heldImage m_hasImage m_tape m_read m_order m_width m_guard m_points m_stages m_gain m_undo m_near m_quarter m_ln m_angle m_shift m_digit m_refused m_job m_jobKept m_result m_resultKept m_trace m_traceKept m_jobImage m_resultImage m_traceImage) H → va_S A s.heap H locs → lv_has ls 11 [(0, .ref (q 0)), (1, .int x1), (2, .int x2), (3, .long x3), (5, .long x5), (7, .int x7)] → W p l e rm_X11_takenOut s m args below meth c H locs 0 0 Q (F0 m 6 ls []) := by
    intro  n
    induction n with
    | zero =>
      intro x1 x2 x3 x5 x7 H locs ls h
      exact nz_of h
    | succ n ih =>
      intro x1 x2 x3 x5 x7 H locs ls h hP hS hl
      rw [f_X11_takenOut_l6] at h
      refine lv_iload hx hb dX11_takenOut_6 (lv_at hl 5 rfl) ?_
      refine lv_bipush (v := 32) hx hb dX11_takenOut_8 rfl ?_
      refine lv_icmp_ge (tgt := 106) hx hb dX11_takenOut_10 rfl (fun c10 => ?_) (fun c10 => ?_)
      · have h := br_p c10 h
        refine lv_lload hx hb dX11_takenOut_106 (lv_at hl 4 rfl) ?_
        exact ret h hP hS dX11_takenOut_108
      · have h := br_n c10 h
        refine lv_aload_n hx hb dX11_takenOut_13 rfl (lv_at hl 0 rfl) ?_
        refine gf_X11_189_M_0 X hP dX11_takenOut_14 ?_
        refine lv_bipush (v := 32) hx hb dX11_takenOut_17 rfl ?_
        refine lv_aload_n hx hb dX11_takenOut_19 rfl (lv_at hl 0 rfl) ?_
        refine lv_iload_n hx hb dX11_takenOut_20 rfl (lv_at hl 1 rfl) ?_
        refine lv_iload_n hx hb dX11_takenOut_21 rfl (lv_at hl 2 rfl) ?_
        obtain ⟨o1, hco1, h⟩ := bd_of h
        refine kV (rest := [.int 32, .ref (q 15)]) X dX11_takenOut_22 wd_5_216 mw_X11_row wd_5_218 wp_7_9 hP (k0 := 0) rfl rfl rfl hS (fun _ z => z) (c_X11_row hco1) rfl hl.1 rfl (Nat.le_of_ble_eq_true rfl) rfl rfl ⟨Nat.le_of_ble_eq_true rfl, Nat.le_of_ble_eq_true rfl⟩ (fun H locs hP _ _ hS => ?_)
        refine W.eq (g2 := F0 m 25 ls [.int o1, .int 32, .ref (q 15)]) rfl ?_
        refine lv_imul hx hb dX11_takenOut_25 ?_
        refine lv_iload hx hb dX11_takenOut_26 (lv_at hl 5 rfl) ?_
        refine lv_iadd hx hb dX11_takenOut_28 ?_
        obtain ⟨hi29, h⟩ := gv_of h
        refine al_M_15 X hP hi29 dX11_takenOut_29 ?_
        refine lv_topi (fun v2 ev2 => ?_)
        have h := lt_at ev2 h
        refine lv_istore (lv' := [(8, .int v2), (0, .ref (q 0)), (1, .int x1), (2, .int x2), (3, .long x3), (5, .long x5), (7, .int x7)]) hx hb dX11_takenOut_30 hl (by decide) rfl (fun ls hl => ?_)
        refine lv_iload hx hb dX11_takenOut_32 (lv_at hl 0 rfl) ?_
        refine lv_if_ne (tgt := 40) hx hb dX11_takenOut_34 rfl (fun c34 => ?_) (fun c34 => ?_)
        · have h := br_n c34 h
          refine lv_iload hx hb dX11_takenOut_40 (lv_at hl 6 rfl) ?_
          refine lv_aload_n hx hb dX11_takenOut_42 rfl (lv_at hl 1 rfl) ?_
          refine gf_X11_173_M_0 X hP dX11_takenOut_43 ?_
          refine lv_iload_n hx hb dX11_takenOut_46 rfl (lv_at hl 2 rfl) ?_
          obtain ⟨hi47, h⟩ := gv_of h
          refine al_M_6 X hP hi47 dX11_takenOut_47 ?_
          refine lv_icmp_le (tgt := 65) hx hb dX11_takenOut_48 rfl (fun c48 => ?_) (fun c48 => ?_)
          · have h := br_p c48 h
            refine lv_aload_n hx hb dX11_takenOut_65 rfl (lv_at hl 1 rfl) ?_
            refine lv_iload_n hx hb dX11_takenOut_66 rfl (lv_at hl 2 rfl) ?_
            refine lv_lload_n hx hb dX11_takenOut_67 rfl (lv_at hl 4 rfl) ?_
            refine lv_aload_n hx hb dX11_takenOut_68 rfl (lv_at hl 1 rfl) ?_
            refine gf_X11_173_M_0 X hP dX11_takenOut_69 ?_
            refine lv_iload_n hx hb dX11_takenOut_72 rfl (lv_at hl 2 rfl) ?_
            obtain ⟨hi73, h⟩ := gv_of h
            refine al_M_6 X hP hi73 dX11_takenOut_73 ?_
            refine lv_iload hx hb dX11_takenOut_74 (lv_at hl 6 rfl) ?_
            refine lv_isub hx hb dX11_takenOut_76 ?_
            obtain ⟨o3, hco3, h⟩ := bd_of h
            refine kV (rest := []) X dX11_takenOut_77 wd_6_187 mw_X11_shifted wd_6_189 wp_8_1 hP (k0 := 0) rfl rfl rfl hS (fun _ z => z) (c_X11_shifted hco3) rfl hl.1 rfl (Nat.le_of_ble_eq_true rfl) rfl rfl ⟨Nat.le_of_ble_eq_true rfl, Nat.le_of_ble_eq_true rfl⟩ (fun H locs hP _ _ hS => ?_)
            refine W.eq (g2 := F0 m 80 ls [.long o3]) rfl ?_
            exact b80 (f_X11_takenOut_l6  m_points m_near m_digit  n) ih  x1 x2 x3 x5 x7 v2 o3 _ _ _ h hP hS (lv_sub hl [1, 2, 3, 4, 5, 6, 0] rfl)
          · have h := br_n c48 h
            refine lv_lload_n hx hb dX11_takenOut_51 rfl (lv_at hl 4 rfl) ?_
            refine lv_iload hx hb dX11_takenOut_52 (lv_at hl 6 rfl) ?_
            refine lv_aload_n hx hb dX11_takenOut_54 rfl (lv_at hl 1 rfl) ?_
            refine gf_X11_173_M_0 X hP dX11_takenOut_55 ?_
            refine lv_iload_n hx hb dX11_takenOut_58 rfl (lv_at hl 2 rfl) ?_
            obtain ⟨hi59, h⟩ := gv_of h
            refine al_M_6 X hP hi59 dX11_takenOut_59 ?_
            refine lv_isub hx hb dX11_takenOut_60 ?_
            refine lv_lshl hx hb dX11_takenOut_61 rfl ?_
            refine lv_goto (tgt := 80) hx hb dX11_takenOut_62 rfl ?_
            exact b80 (f_X11_takenOut_l6  m_points m_near m_digit  n) ih  x1 x2 x3 x5 x7 v2 (x3 <<< ((x7 - (m_points (x1).toNatClampNeg)).toInt64 &&& 63)) _ _ _ h hP hS (lv_sub hl [1, 2, 3, 4, 5, 6, 0] rfl)
        · have h := br_p c34 h
          refine lv_goto (tgt := 100) hx hb dX11_takenOut_37 rfl ?_
          exact b100 (f_X11_takenOut_l6  m_points m_near m_digit  n) ih  x1 x2 x3 x5 x7 _ _ _ h hP hS (lv_sub hl [1, 2, 3, 4, 5, 6] rfl)
  unfold f_X11_takenOut at h
  refine lv_lconst (v := 0) hx hb dX11_takenOut_0 rfl ?_
  refine lv_lstore (lv' := [(5, .long (0 : Int64)), (0, .ref (q 0)), (1, .int p0), (2, .int p1), (3, .long p2)]) hx hb dX11_takenOut_1 hl (by decide) rfl (fun ls hl => ?_)
  refine lv_iconst (v := 0) hx hb dX11_takenOut_3 rfl ?_
  refine lv_istore (lv' := [(7, .int 0), (5, .long (0 : Int64)), (0, .ref (q 0)), (1, .int p0), (2, .int p1), (3, .long p2)]) hx hb dX11_takenOut_4 hl (by decide) rfl (fun ls hl => ?_)
  exact l6  FU p0 p1 p2 (0 : Int64) (0 : Int32) _ _ _ h hP hS (lv_sub hl [2, 3, 4, 5, 1, 0] rfl)
abbrev rm_X11_takenOut_ : Room := { frames := 2, cells := 0, slots := 0, locals := 54 }
set_option maxRecDepth 100000 in
set_option maxHeartbeats 4000000 in
theorem c_X11_takenOut_ {g : gT} {l : Launch} {A : Nat → Prop} {q : Nat → Nat} {m_thrown : Int32} {m_length : Int32} {m_at : Int32} {m_fault : Int32} {m_toldWords : Int32} {m_orders : Int32} {m_value : Int32} {m_hasUnit : Bool} {m_places : Int32} {m_clocks : Int32} {m_held : Bool} {m_x : Int64} {m_y : Int64} {m_z : Int64} {m_first : Int64} {m_second : Int64} {m_aside : Int32} {m_jobs : Int32} {m_jobsImage : Int32} {m_clocksImage : Int32} {m_heldImage : Bool} {m_hasImage : Bool} {m_tape : Nat → Int32} {m_read : Nat → Int32} {m_order : Nat → Int32} {m_width : Nat → Int32} {m_guard : Nat → Int32} {m_points : Nat → Int32} {m_stages : Nat → Int32} {m_gain : Nat → Int32} {m_undo : Nat → Int32} {m_near : Nat → Bool} {m_quarter : Nat → Int64} {m_ln : Nat → Int64} {m_angle : Nat → Int64} {m_shift : Nat → Int32} {m_digit : Nat → Int32} {m_refused : Nat → Int32} {m_job : Nat → Int32} {m_jobKept : Nat → Int32} {m_result : Nat → Int32} {m_resultKept : Nat → Int32} {m_trace : Nat → Int64} {m_traceKept : Nat → Int64} {m_jobImage : Nat → Int32} {m_resultImage : Nat → Int32} {m_traceImage : Nat → Int64} {p0 : Int32} {p1 : Int32} {o : Int32 × Int32} (h : f_X11_takenOut_ p0 p1 m_thrown m_hasUnit m_points m_near m_digit = some o) : Std g l yX11_takenOut_ (.code yX11_takenOut_ cX11_takenOut_ 3 (some .int) :: gw) rm_X11_takenOut_ A [.ref (q 0), .int p0, .int p1] (wM g q m_thrown m_length m_at m_fault m_toldWords m_orders m_value m_hasUnit m_places m_clocks m_held m_x m_y m_z m_first m_second m_aside m_jobs m_jobsImage m_clocksImage m_heldImage m_hasImage m_tape m_read m_order m_width m_guard m_points m_stages m_gain m_undo m_near m_quarter m_ln m_angle m_shift m_digit m_refused m_job m_jobKept m_result m_resultKept m_trace m_traceKept m_jobImage m_resultImage m_traceImage) (wM g q o.2 m_length m_at m_fault m_toldWords m_orders m_value m_hasUnit m_places m_clocks m_held m_x m_y m_z m_first m_second m_aside m_jobs m_jobsImage m_clocksImage m_heldImage m_hasImage m_tape m_read m_order m_width m_guard m_points m_stages m_gain m_undo m_near m_quarter m_ln m_angle m_shift m_digit m_refused m_job m_jobKept m_result m_resultKept m_trace m_traceKept m_jobImage m_resultImage m_traceImage) (some (.int o.1)) := by
  refine std_i (own := RX11) (by decide +kernel) rfl (Nat.le_of_ble_eq_true rfl) ?_
  intro p e s m args below meth c Q X ret H locs hP hS ls hl
  have hx := X.1
  have hb := X.2.1
  have hl : lv_has ls 3 [(0, .ref (q 0)), (1, .int p0), (2, .int p1)] := hl
  have ret : ∀ {H : Heap} {locs : List Loc} {pc : Nat} {ls : Array Slot} {v : Int32} {m_thrown : Int32}, some (v, m_thrown) = some o → WP g A (wM g q m_thrown m_length m_at m_fault m_toldWords m_orders m_value m_hasUnit m_places m_clocks m_held m_x m_y m_z m_first m_second m_aside m_jobs m_jobsImage m_clocksImage m_heldImage m_hasImage m_tape m_read m_order m_width m_guard m_points m_stages m_gain m_undo m_near m_quarter m_ln m_angle m_shift m_digit m_refused m_job m_jobKept m_result m_resultKept m_trace m_traceKept m_jobImage m_resultImage m_traceImage) H → va_S A s.heap H locs → decode cX11_takenOut_ pc = .ok (.ireturn, 1) → W p l e rm_X11_takenOut_ s m args below meth c H locs 0 0 Q (F0 m pc ls [.int v]) := by
    intro H locs pc ls v m_thrown h hP hS hd
    cases h
    exact ret hP hS hd
  have b39 : ∀ (m_thrown : Int32) (H : Heap) (locs : List Loc) (ls : Array Slot), f_X11_takenOut__b39  m_hasUnit m_points m_near m_digit  m_thrown = some o → WP g A (wM g q m_thrown m_length m_at m_fault m_toldWords m_orders m_value m_hasUnit m_places m_clocks m_held m_x m_y m_z m_first m_second m_aside m_jobs m_jobsImage m_clocksImage m_heldImage m_hasImage m_tape m_read m_order m_width m_guard m_points m_stages m_gain m_undo m_near m_quarter m_ln m_angle m_shift m_digit m_refused m_job m_jobKept m_result m_resultKept m_trace m_traceKept m_jobImage m_resultImage m_traceImage) H → va_S A s.heap H locs → lv_has ls 3 [] → W p l e rm_X11_takenOut_ s m args below meth c H locs 0 0 Q (F0 m 39 ls []) := by
    intro  m_thrown H locs ls h hP hS hl
    unfold f_X11_takenOut__b39 at h
    refine lv_ldcw (v := (-2147483648)) hx hb X.2.2.2.1 (X.2.2.2.2.1 _ wd_6_176) dX11_takenOut__39 ?_
    exact ret h hP hS dX11_takenOut__42
  unfold f_X11_takenOut_ at h
  refine lv_aload_n hx hb dX11_takenOut__0 rfl (lv_at hl 0 rfl) ?_
  refine lv_iconst (v := 0) hx hb dX11_takenOut__1 rfl ?_
  refine pf_X11_5_M_0 (v0 := (0 : Int32)) X hP hS dX11_takenOut__2 (fun H locs hP hS => ?_)
  refine lv_aload_n hx hb dX11_takenOut__5 rfl (lv_at hl 0 rfl) ?_
  refine lv_iload_n hx hb dX11_takenOut__6 rfl (lv_at hl 1 rfl) ?_
  obtain ⟨o1, hco1, h⟩ := bd_of h
  refine kV (rest := []) X dX11_takenOut__7 wd_6_147 mw_X11_isMode wd_6_149 wp_7_11 hP (k0 := 0) rfl rfl rfl hS (fun _ z => z) (c_X11_isMode hco1) rfl hl.1 rfl (Nat.le_of_ble_eq_true rfl) rfl rfl ⟨Nat.le_of_ble_eq_true rfl, Nat.le_of_ble_eq_true rfl⟩ (fun H locs hP _ _ hS => ?_)
  refine W.eq (g2 := F0 m 10 ls [.int (bI o1)]) rfl ?_
  refine rb_eq (tgt := 39) hx hb dX11_takenOut__10 rfl (fun c10 => ?_) (fun c10 => ?_)
  · have h := br_n c10 h
    exact b39   (0 : Int32) _ _ _ h hP hS (lv_sub hl [] rfl)
  · have h := br_p c10 h
    refine lv_iload_n hx hb dX11_takenOut__13 rfl (lv_at hl 2 rfl) ?_
    refine lv_i2l hx hb dX11_takenOut__14 rfl ?_
    refine lv_ldc2 (v := (-536870912)) hx hb X.2.2.2.1 (X.2.2.2.2.1 _ wd_6_181) dX11_takenOut__15 ?_
    refine lv_ldc2 (v := 536870912) hx hb X.2.2.2.1 (X.2.2.2.2.1 _ wd_6_182) dX11_takenOut__18 ?_
    obtain ⟨o2, hco2, h⟩ := bd_of h
    refine kS (rest := []) X dX11_takenOut__21 wd_5_153 mw_X11_isIn wd_5_154 hP hS (fun _ z => z) (c_X11_isIn hco2) rfl hl.1 rfl (Nat.le_of_ble_eq_true rfl) rfl rfl ⟨Nat.le_of_ble_eq_true rfl, Nat.le_of_ble_eq_true rfl⟩ (fun H locs hP _ _ hS => ?_)
    refine W.eq (g2 := F0 m 24 ls [.int (bI o2)]) rfl ?_
    refine rb_eq (tgt := 39) hx hb dX11_takenOut__24 rfl (fun c24 => ?_) (fun c24 => ?_)
    · have h := br_n c24 h
      exact b39   (0 : Int32) _ _ _ h hP hS (lv_sub hl [] rfl)
    · have h := br_p c24 h
      refine lv_aload_n hx hb dX11_takenOut__27 rfl (lv_at hl 0 rfl) ?_
      refine lv_iconst (v := 0) hx hb dX11_takenOut__28 rfl ?_
      refine lv_iload_n hx hb dX11_takenOut__29 rfl (lv_at hl 1 rfl) ?_
      refine lv_iload_n hx hb dX11_takenOut__30 rfl (lv_at hl 2 rfl) ?_
      refine lv_i2l hx hb dX11_takenOut__31 rfl ?_
      obtain ⟨o3, hco3, h⟩ := bd_of h
      refine kV (rest := []) X dX11_takenOut__32 wd_6_183 mw_X11_takenOut wd_6_185 wp_8_0 hP (k0 := 0) rfl rfl rfl hS (fun _ z => z) (c_X11_takenOut hco3) rfl hl.1 rfl (Nat.le_of_ble_eq_true rfl) rfl rfl ⟨Nat.le_of_ble_eq_true rfl, Nat.le_of_ble_eq_true rfl⟩ (fun H locs hP _ _ hS => ?_)
      refine W.eq (g2 := F0 m 35 ls [.long o3]) rfl ?_
      refine lv_l2i hx hb dX11_takenOut__35 rfl ?_
      refine lv_goto (tgt := 42) hx hb dX11_takenOut__36 rfl ?_
      exact ret h hP hS dX11_takenOut__42
abbrev rm_X11_isTurning : Room := { frames := 0, cells := 0, slots := 0, locals := 0 }
set_option maxRecDepth 100000 in
set_option maxHeartbeats 4000000 in
theorem c_X11_isTurning {g : gT} {l : Launch} {A : Nat → Prop} {w : va_W} {p0 : Int32} {o : Bool} (h : f_X11_isTurning p0  = some o) : Std g l yX11_isTurning (.code yX11_isTurning cX11_isTurning 1 (some .boolean) :: gw) rm_X11_isTurning A [.int p0] w w (some (.int (bI o))) := by
  refine std_z (own := RX11) (by decide +kernel) rfl (Nat.le_of_ble_eq_true rfl) ?_
  intro p e s m args below meth c Q X ret H locs hP hS ls hl
  have hx := X.1
  have hb := X.2.1
  have hl : lv_has ls 1 [(0, .int p0)] := hl
  have ret : ∀ {H : Heap} {locs : List Loc} {pc : Nat} {ls : Array Slot} {v : Bool} , some (v) = some o → WP g A w H → va_S A s.heap H locs → decode cX11_isTurning pc = .ok (.ireturn, 1) → W p l e rm_X11_isTurning s m args below meth c H locs 0 0 Q (F0 m pc ls [.int (bI v)]) := by
    intro H locs pc ls v h hP hS hd
    cases h
    exact ret hP hS hd
  unfold f_X11_isTurning at h
  refine lv_iload_n hx hb dX11_isTurning_0 rfl (lv_at hl 0 rfl) ?_
  refine lv_iconst (v := 1) hx hb dX11_isTurning_1 rfl ?_
  refine jx1 h (P := fun (v1 : Bool) => ∀ ls : Array Slot, lv_has ls 1 [] → W p l e rm_X11_isTurning s m args below meth c H locs 0 0 Q (F0 m 27 ls [.int (bI v1)])) ?_ ?_
  · intro v1 h ls hl
    exact ret h hP hS dX11_isTurning_27
  · intro J h
    refine lv_icmp_eq (tgt := 26) hx hb dX11_isTurning_2 rfl (fun c2 => ?_) (fun c2 => ?_)
    · refine lv_iconst (v := 0) hx hb dX11_isTurning_26 rfl ?_
      exact J _ (lt_ip c2 h) ls (lv_sub hl [] rfl)
    · refine lv_iload_n hx hb dX11_isTurning_5 rfl (lv_at hl 0 rfl) ?_
      refine lv_iconst (v := 3) hx hb dX11_isTurning_6 rfl ?_
      refine lv_icmp_eq (tgt := 26) hx hb dX11_isTurning_7 rfl (fun c7 => ?_) (fun c7 => ?_)
      · refine lv_iconst (v := 0) hx hb dX11_isTurning_26 rfl ?_
        exact J _ (lt_ip c7 (lt_in c2 h)) ls (lv_sub hl [] rfl)
      · refine lv_iload_n hx hb dX11_isTurning_10 rfl (lv_at hl 0 rfl) ?_
        refine lv_bipush (v := 6) hx hb dX11_isTurning_11 rfl ?_
        refine lv_icmp_eq (tgt := 26) hx hb dX11_isTurning_13 rfl (fun c13 => ?_) (fun c13 => ?_)
        · refine lv_iconst (v := 0) hx hb dX11_isTurning_26 rfl ?_
          exact J _ (lt_ip c13 (lt_in c7 (lt_in c2 h))) ls (lv_sub hl [] rfl)
        · refine lv_iload_n hx hb dX11_isTurning_16 rfl (lv_at hl 0 rfl) ?_
          refine lv_bipush (v := 7) hx hb dX11_isTurning_17 rfl ?_
          refine lv_icmp_eq (tgt := 26) hx hb dX11_isTurning_19 rfl (fun c19 => ?_) (fun c19 => ?_)
          · refine lv_iconst (v := 0) hx hb dX11_isTurning_26 rfl ?_
            exact J _ (lt_ip c19 (lt_in c13 (lt_in c7 (lt_in c2 h)))) ls (lv_sub hl [] rfl)
          · refine lv_iconst (v := 1) hx hb dX11_isTurning_22 rfl ?_
            refine lv_goto (tgt := 27) hx hb dX11_isTurning_23 rfl ?_
            exact J _ (lt_in c19 (lt_in c13 (lt_in c7 (lt_in c2 h)))) ls (lv_sub hl [] rfl)
abbrev rm_X11_isTo : Room := { frames := 1, cells := 0, slots := 0, locals := 25 }
set_option maxRecDepth 100000 in
set_option maxHeartbeats 4000000 in
theorem c_X11_isTo {g : gT} {l : Launch} {A : Nat → Prop} {w : va_W} {p0 : Int64} {p1 : Int32} {o : Bool} (h : f_X11_isTo p0 p1  = some o) : Std g l yX11_isTo (.code yX11_isTo cX11_isTo 3 (some .boolean) :: gw) rm_X11_isTo A [.long p0, .int p1] w w (some (.int (bI o))) := by
  refine std_z (own := RX11) (by decide +kernel) rfl (Nat.le_of_ble_eq_true rfl) ?_
  intro p e s m args below meth c Q X ret H locs hP hS ls hl
  have hx := X.1
  have hb := X.2.1
  have hl : lv_has ls 3 [(0, .long p0), (2, .int p1)] := hl
  have ret : ∀ {H : Heap} {locs : List Loc} {pc : Nat} {ls : Array Slot} {v : Bool} , some (v) = some o → WP g A w H → va_S A s.heap H locs → decode cX11_isTo pc = .ok (.ireturn, 1) → W p l e rm_X11_isTo s m args below meth c H locs 0 0 Q (F0 m pc ls [.int (bI v)]) := by
    intro H locs pc ls v h hP hS hd
    cases h
    exact ret hP hS hd
  unfold f_X11_isTo at h
  refine lv_lload_n hx hb dX11_isTo_0 rfl (lv_at hl 0 rfl) ?_
  refine lv_lconst (v := 1) hx hb dX11_isTo_1 rfl ?_
  refine lv_iload_n hx hb dX11_isTo_2 rfl (lv_at hl 1 rfl) ?_
  refine lv_lshl hx hb dX11_isTo_3 rfl ?_
  refine lv_lneg hx hb dX11_isTo_4 ?_
  refine lv_lconst (v := 1) hx hb dX11_isTo_5 rfl ?_
  refine lv_iload_n hx hb dX11_isTo_6 rfl (lv_at hl 1 rfl) ?_
  refine lv_lshl hx hb dX11_isTo_7 rfl ?_
  obtain ⟨o1, hco1, h⟩ := bd_of h
  refine kS (rest := []) X dX11_isTo_8 wd_5_153 mw_X11_isIn wd_5_154 hP hS (fun _ z => z) (c_X11_isIn hco1) rfl hl.1 rfl (Nat.le_of_ble_eq_true rfl) rfl rfl ⟨Nat.le_of_ble_eq_true rfl, Nat.le_of_ble_eq_true rfl⟩ (fun H locs hP _ _ hS => ?_)
  refine W.eq (g2 := F0 m 11 ls [.int (bI o1)]) rfl ?_
  exact ret h hP hS dX11_isTo_11
abbrev rm_X11_bitsOf : Room := { frames := 0, cells := 0, slots := 0, locals := 0 }
set_option maxRecDepth 100000 in
set_option maxHeartbeats 4000000 in
theorem c_X11_bitsOf {g : gT} {l : Launch} {A : Nat → Prop} {w : va_W} {p0 : Int64} {o : Int32} (h : f_X11_bitsOf p0  = some o) : Std g l yX11_bitsOf (.code yX11_bitsOf cX11_bitsOf 3 (some .int) :: gw) rm_X11_bitsOf A [.long p0] w w (some (.int o)) := by
  refine std_i (own := RX11) (by decide +kernel) rfl (Nat.le_of_ble_eq_true rfl) ?_
  intro p e s m args below meth c Q X ret H locs hP hS ls hl
  have hx := X.1
  have hb := X.2.1
  have hl : lv_has ls 3 [(0, .long p0)] := hl
  have ret : ∀ {H : Heap} {locs : List Loc} {pc : Nat} {ls : Array Slot} {v : Int32} , some (v) = some o → WP g A w H → va_S A s.heap H locs → decode cX11_bitsOf pc = .ok (.ireturn, 1) → W p l e rm_X11_bitsOf s m args below meth c H locs 0 0 Q (F0 m pc ls [.int v]) := by
    intro H locs pc ls v h hP hS hd
    cases h
    exact ret hP hS hd
  have l2 : ∀ (n : Nat), ∀ (x0 : Int64) (x2 : Int32) (H : Heap) (locs : List Loc) (ls : Array Slot), f_X11_bitsOf_l2    n x0 x2 = some o → WP g A w H → va_S A s.heap H locs → lv_has ls 3 [(0, .long x0), (2, .int x2)] → W p l e rm_X11_bitsOf s m args below meth c H locs 0 0 Q (F0 m 2 ls []) := by
    intro  n
    induction n with
    | zero =>
      intro x0 x2 H locs ls h
      exact nz_of h
    | succ n ih =>
      intro x0 x2 H locs ls h hP hS hl
      rw [f_X11_bitsOf_l2] at h
      refine lv_lload_n hx hb dX11_bitsOf_2 rfl (lv_at hl 0 rfl) ?_
      refine lv_iload_n hx hb dX11_bitsOf_3 rfl (lv_at hl 1 rfl) ?_
      refine lv_lshr hx hb dX11_bitsOf_4 rfl ?_
      refine lv_lconst (v := 0) hx hb dX11_bitsOf_5 rfl ?_
      refine rl_le (tgt := 16) hx hb dX11_bitsOf_6 dX11_bitsOf_7 rfl (fun c6 => ?_) (fun c6 => ?_)
      · have h := br_p c6 h
        refine lv_iload_n hx hb dX11_bitsOf_16 rfl (lv_at hl 1 rfl) ?_
        exact ret h hP hS dX11_bitsOf_17
      · have h := br_n c6 h
        obtain ⟨v1, ev1⟩ : ∃ z : Int32, z = (x2 + 1) := ⟨_, rfl⟩
        have h := lt_at ev1 h
        refine lv_iinc (v := v1) (lv' := [(2, .int v1), (0, .long x0)]) hx hb dX11_bitsOf_10 hl (k := 1) rfl (by rw [ev1]; rfl) (by decide) rfl (fun ls hl => ?_)
        refine lv_goto (tgt := 2) hx hb dX11_bitsOf_13 rfl ?_
        exact ih x0 v1 _ _ _ h hP hS (lv_sub hl [1, 0] rfl)
  unfold f_X11_bitsOf at h
  refine lv_iconst (v := 0) hx hb dX11_bitsOf_0 rfl ?_
  refine lv_istore_n (lv' := [(2, .int 0), (0, .long p0)]) hx hb dX11_bitsOf_1 rfl hl (by decide) rfl (fun ls hl => ?_)
  exact l2  FU p0 (0 : Int32) _ _ _ h hP hS (lv_sub hl [1, 0] rfl)
abbrev rm_X11_isGood : Room := { frames := 2, cells := 0, slots := 0, locals := 47 }
set_option maxRecDepth 100000 in
set_option maxHeartbeats 4000000 in
theorem c_X11_isGood {g : gT} {l : Launch} {A : Nat → Prop} {q : Nat → Nat} {m_thrown : Int32} {m_length : Int32} {m_at : Int32} {m_fault : Int32} {m_toldWords : Int32} {m_orders : Int32} {m_value : Int32} {m_hasUnit : Bool} {m_places : Int32} {m_clocks : Int32} {m_held : Bool} {m_x : Int64} {m_y : Int64} {m_z : Int64} {m_first : Int64} {m_second : Int64} {m_aside : Int32} {m_jobs : Int32} {m_jobsImage : Int32} {m_clocksImage : Int32} {m_heldImage : Bool} {m_hasImage : Bool} {m_tape : Nat → Int32} {m_read : Nat → Int32} {m_order : Nat → Int32} {m_width : Nat → Int32} {m_guard : Nat → Int32} {m_points : Nat → Int32} {m_stages : Nat → Int32} {m_gain : Nat → Int32} {m_undo : Nat → Int32} {m_near : Nat → Bool} {m_quarter : Nat → Int64} {m_ln : Nat → Int64} {m_angle : Nat → Int64} {m_shift : Nat → Int32} {m_digit : Nat → Int32} {m_refused : Nat → Int32} {m_job : Nat → Int32} {m_jobKept : Nat → Int32} {m_result : Nat → Int32} {m_resultKept : Nat → Int32} {m_trace : Nat → Int64} {m_traceKept : Nat → Int64} {m_jobImage : Nat → Int32} {m_resultImage : Nat → Int32} {m_traceImage : Nat → Int64} {p0 : Int32} {p1 : Int32} {p2 : Int64} {p3 : Int64} {p4 : Int64} {o : Bool} (h : f_X11_isGood p0 p1 p2 p3 p4 m_width = some o) : Std g l yX11_isGood (.code yX11_isGood cX11_isGood 10 (some .boolean) :: gw) rm_X11_isGood A [.ref (q 0), .int p0, .int p1, .long p2, .long p3, .long p4] (wM g q m_thrown m_length m_at m_fault m_toldWords m_orders m_value m_hasUnit m_places m_clocks m_held m_x m_y m_z m_first m_second m_aside m_jobs m_jobsImage m_clocksImage m_heldImage m_hasImage m_tape m_read m_order m_width m_guard m_points m_stages m_gain m_undo m_near m_quarter m_ln m_angle m_shift m_digit m_refused m_job m_jobKept m_result m_resultKept m_trace m_traceKept m_jobImage m_resultImage m_traceImage) (wM g q m_thrown m_length m_at m_fault m_toldWords m_orders m_value m_hasUnit m_places m_clocks m_held m_x m_y m_z m_first m_second m_aside m_jobs m_jobsImage m_clocksImage m_heldImage m_hasImage m_tape m_read m_order m_width m_guard m_points m_stages m_gain m_undo m_near m_quarter m_ln m_angle m_shift m_digit m_refused m_job m_jobKept m_result m_resultKept m_trace m_traceKept m_jobImage m_resultImage m_traceImage) (some (.int (bI o))) := by
  refine std_z (own := RX11) (by decide +kernel) rfl (Nat.le_of_ble_eq_true rfl) ?_
  intro p e s m args below meth c Q X ret H locs hP hS ls hl
  have hx := X.1
  have hb := X.2.1
  have hl : lv_has ls 10 [(0, .ref (q 0)), (1, .int p0), (2, .int p1), (3, .long p2), (5, .long p3), (7, .long p4)] := hl
  have ret : ∀ {H : Heap} {locs : List Loc} {pc : Nat} {ls : Array Slot} {v : Bool} , some (v) = some o → WP g A (wM g q m_thrown m_length m_at m_fault m_toldWords m_orders m_value m_hasUnit m_places m_clocks m_held m_x m_y m_z m_first m_second m_aside m_jobs m_jobsImage m_clocksImage m_heldImage m_hasImage m_tape m_read m_order m_width m_guard m_points m_stages m_gain m_undo m_near m_quarter m_ln m_angle m_shift m_digit m_refused m_job m_jobKept m_result m_resultKept m_trace m_traceKept m_jobImage m_resultImage m_traceImage) H → va_S A s.heap H locs → decode cX11_isGood pc = .ok (.ireturn, 1) → W p l e rm_X11_isGood s m args below meth c H locs 0 0 Q (F0 m pc ls [.int (bI v)]) := by
    intro H locs pc ls v h hP hS hd
    cases h
    exact ret hP hS hd
  have b105 : ∀  (H : Heap) (locs : List Loc) (ls : Array Slot), f_X11_isGood_b105  m_width   = some o → WP g A (wM g q m_thrown m_length m_at m_fault m_toldWords m_orders m_value m_hasUnit m_places m_clocks m_held m_x m_y m_z m_first m_second m_aside m_jobs m_jobsImage m_clocksImage m_heldImage m_hasImage m_tape m_read m_order m_width m_guard m_points m_stages m_gain m_undo m_near m_quarter m_ln m_angle m_shift m_digit m_refused m_job m_jobKept m_result m_resultKept m_trace m_traceKept m_jobImage m_resultImage m_traceImage) H → va_S A s.heap H locs → lv_has ls 10 [] → W p l e rm_X11_isGood s m args below meth c H locs 0 0 Q (F0 m 105 ls []) := by
    intro   H locs ls h hP hS hl
    unfold f_X11_isGood_b105 at h
    refine lv_iconst (v := 0) hx hb dX11_isGood_105 rfl ?_
    exact ret h hP hS dX11_isGood_106
  have b134 : ∀  (H : Heap) (locs : List Loc) (ls : Array Slot), f_X11_isGood_b134  m_width   = some o → WP g A (wM g q m_thrown m_length m_at m_fault m_toldWords m_orders m_value m_hasUnit m_places m_clocks m_held m_x m_y m_z m_first m_second m_aside m_jobs m_jobsImage m_clocksImage m_heldImage m_hasImage m_tape m_read m_order m_width m_guard m_points m_stages m_gain m_undo m_near m_quarter m_ln m_angle m_shift m_digit m_refused m_job m_jobKept m_result m_resultKept m_trace m_traceKept m_jobImage m_resultImage m_traceImage) H → va_S A s.heap H locs → lv_has ls 10 [] → W p l e rm_X11_isGood s m args below meth c H locs 0 0 Q (F0 m 134 ls []) := by
    intro   H locs ls h hP hS hl
    unfold f_X11_isGood_b134 at h
    refine lv_iconst (v := 0) hx hb dX11_isGood_134 rfl ?_
    exact ret h hP hS dX11_isGood_135
  have b186 : ∀  (H : Heap) (locs : List Loc) (ls : Array Slot), f_X11_isGood_b186  m_width   = some o → WP g A (wM g q m_thrown m_length m_at m_fault m_toldWords m_orders m_value m_hasUnit m_places m_clocks m_held m_x m_y m_z m_first m_second m_aside m_jobs m_jobsImage m_clocksImage m_heldImage m_hasImage m_tape m_read m_order m_width m_guard m_points m_stages m_gain m_undo m_near m_quarter m_ln m_angle m_shift m_digit m_refused m_job m_jobKept m_result m_resultKept m_trace m_traceKept m_jobImage m_resultImage m_traceImage) H → va_S A s.heap H locs → lv_has ls 10 [] → W p l e rm_X11_isGood s m args below meth c H locs 0 0 Q (F0 m 186 ls []) := by
    intro   H locs ls h hP hS hl
    unfold f_X11_isGood_b186 at h
    refine lv_iconst (v := 0) hx hb dX11_isGood_186 rfl ?_
    exact ret h hP hS dX11_isGood_187
  have b225 : ∀  (H : Heap) (locs : List Loc) (ls : Array Slot), f_X11_isGood_b225  m_width   = some o → WP g A (wM g q m_thrown m_length m_at m_fault m_toldWords m_orders m_value m_hasUnit m_places m_clocks m_held m_x m_y m_z m_first m_second m_aside m_jobs m_jobsImage m_clocksImage m_heldImage m_hasImage m_tape m_read m_order m_width m_guard m_points m_stages m_gain m_undo m_near m_quarter m_ln m_angle m_shift m_digit m_refused m_job m_jobKept m_result m_resultKept m_trace m_traceKept m_jobImage m_resultImage m_traceImage) H → va_S A s.heap H locs → lv_has ls 10 [] → W p l e rm_X11_isGood s m args below meth c H locs 0 0 Q (F0 m 225 ls []) := by
    intro   H locs ls h hP hS hl
    unfold f_X11_isGood_b225 at h
    refine lv_iconst (v := 0) hx hb dX11_isGood_225 rfl ?_
    exact ret h hP hS dX11_isGood_226
  have b204 : ∀ (x3 : Int64) (x9 : Int32) (H : Heap) (locs : List Loc) (ls : Array Slot), f_X11_isGood_b204  m_width  x3 x9 = some o → WP g A (wM g q m_thrown m_length m_at m_fault m_toldWords m_orders m_value m_hasUnit m_places m_clocks m_held m_x m_y m_z m_first m_second m_aside m_jobs m_jobsImage m_clocksImage m_heldImage m_hasImage m_tape m_read m_order m_width m_guard m_points m_stages m_gain m_undo m_near m_quarter m_ln m_angle m_shift m_digit m_refused m_job m_jobKept m_result m_resultKept m_trace m_traceKept m_jobImage m_resultImage m_traceImage) H → va_S A s.heap H locs → lv_has ls 10 [(3, .long x3), (9, .int x9)] → W p l e rm_X11_isGood s m args below meth c H locs 0 0 Q (F0 m 204 ls []) := by
    intro  x3 x9 H locs ls h hP hS hl
    unfold f_X11_isGood_b204 at h
    refine lv_lload_n hx hb dX11_isGood_204 rfl (lv_at hl 0 rfl) ?_
    refine lv_lconst (v := 0) hx hb dX11_isGood_205 rfl ?_
    refine rl_le (tgt := 225) hx hb dX11_isGood_206 dX11_isGood_207 rfl (fun c206 => ?_) (fun c206 => ?_)
    · have h := br_p c206 h
      exact b225    _ _ _ h hP hS (lv_sub hl [] rfl)
    · have h := br_n c206 h
      refine lv_lload_n hx hb dX11_isGood_210 rfl (lv_at hl 0 rfl) ?_
      refine lv_iload hx hb dX11_isGood_211 (lv_at hl 1 rfl) ?_
      refine lv_iconst (v := 5) hx hb dX11_isGood_213 rfl ?_
      refine lv_iadd hx hb dX11_isGood_214 ?_
      obtain ⟨o16, hco16, h⟩ := bd_of h
      refine kS (rest := []) X dX11_isGood_215 wd_6_208 mw_X11_isTo wd_6_209 hP hS (fun _ z => z) (c_X11_isTo hco16) rfl hl.1 rfl (Nat.le_of_ble_eq_true rfl) rfl rfl ⟨Nat.le_of_ble_eq_true rfl, Nat.le_of_ble_eq_true rfl⟩ (fun H locs hP _ _ hS => ?_)
      refine W.eq (g2 := F0 m 218 ls [.int (bI o16)]) rfl ?_
      refine jx1 h (P := fun (v17 : Bool) => ∀ ls : Array Slot, lv_has ls 10 [] → W p l e rm_X11_isGood s m args below meth c H locs 0 0 Q (F0 m 226 ls [.int (bI v17)])) ?_ ?_
      · intro v17 h ls hl
        exact ret h hP hS dX11_isGood_226
      · intro J h
        refine rb_eq (tgt := 225) hx hb dX11_isGood_218 rfl (fun c218 => ?_) (fun c218 => ?_)
        · refine lv_iconst (v := 0) hx hb dX11_isGood_225 rfl ?_
          exact J _ (lt_in c218 h) ls (lv_sub hl [] rfl)
        · refine lv_iconst (v := 1) hx hb dX11_isGood_221 rfl ?_
          refine lv_goto (tgt := 226) hx hb dX11_isGood_222 rfl ?_
          exact J _ (lt_ip c218 h) ls (lv_sub hl [] rfl)
  have b266 : ∀  (H : Heap) (locs : List Loc) (ls : Array Slot), f_X11_isGood_b266  m_width   = some o → WP g A (wM g q m_thrown m_length m_at m_fault m_toldWords m_orders m_value m_hasUnit m_places m_clocks m_held m_x m_y m_z m_first m_second m_aside m_jobs m_jobsImage m_clocksImage m_heldImage m_hasImage m_tape m_read m_order m_width m_guard m_points m_stages m_gain m_undo m_near m_quarter m_ln m_angle m_shift m_digit m_refused m_job m_jobKept m_result m_resultKept m_trace m_traceKept m_jobImage m_resultImage m_traceImage) H → va_S A s.heap H locs → lv_has ls 10 [] → W p l e rm_X11_isGood s m args below meth c H locs 0 0 Q (F0 m 266 ls []) := by
    intro   H locs ls h hP hS hl
    unfold f_X11_isGood_b266 at h
    refine lv_iconst (v := 0) hx hb dX11_isGood_266 rfl ?_
    exact ret h hP hS dX11_isGood_267
  unfold f_X11_isGood at h
  refine lv_aload_n hx hb dX11_isGood_0 rfl (lv_at hl 0 rfl) ?_
  refine gf_X11_192_M_0 X hP dX11_isGood_1 ?_
  refine lv_iload_n hx hb dX11_isGood_4 rfl (lv_at hl 1 rfl) ?_
  obtain ⟨hi5, h⟩ := gv_of h
  refine al_M_4 X hP hi5 dX11_isGood_5 ?_
  refine lv_topi (fun v1 ev1 => ?_)
  have h := lt_at ev1 h
  refine lv_istore (lv' := [(9, .int v1), (0, .ref (q 0)), (1, .int p0), (2, .int p1), (3, .long p2), (5, .long p3), (7, .long p4)]) hx hb dX11_isGood_6 hl (by decide) rfl (fun ls hl => ?_)
  refine lv_iload_n hx hb dX11_isGood_8 rfl (lv_at hl 3 rfl) ?_
  by_cases c9_0 : p1 = 0
  · have h := br_p c9_0 h
    refine lv_tableIn (off := 47) (tgt := 56) hx hb dX11_isGood_9 (by rw [c9_0]; decide) (by rw [c9_0]; decide) (by rw [c9_0]; rfl) rfl ?_
    refine lv_lload_n hx hb dX11_isGood_56 rfl (lv_at hl 4 rfl) ?_
    refine lv_iload hx hb dX11_isGood_57 (lv_at hl 0 rfl) ?_
    refine lv_iconst (v := 5) hx hb dX11_isGood_59 rfl ?_
    refine lv_iadd hx hb dX11_isGood_60 ?_
    obtain ⟨o2, hco2, h⟩ := bd_of h
    refine kS (rest := []) X dX11_isGood_61 wd_6_208 mw_X11_isTo wd_6_209 hP hS (fun _ z => z) (c_X11_isTo hco2) rfl hl.1 rfl (Nat.le_of_ble_eq_true rfl) rfl rfl ⟨Nat.le_of_ble_eq_true rfl, Nat.le_of_ble_eq_true rfl⟩ (fun H locs hP _ _ hS => ?_)
    refine W.eq (g2 := F0 m 64 ls [.int (bI o2)]) rfl ?_
    exact ret h hP hS dX11_isGood_64
  have h := br_n c9_0 h
  by_cases c9_1 : p1 = 1
  · have h := br_p c9_1 h
    refine lv_tableIn (off := 56) (tgt := 65) hx hb dX11_isGood_9 (by rw [c9_1]; decide) (by rw [c9_1]; decide) (by rw [c9_1]; rfl) rfl ?_
    refine lv_lload_n hx hb dX11_isGood_65 rfl (lv_at hl 4 rfl) ?_
    refine lv_iload hx hb dX11_isGood_66 (lv_at hl 0 rfl) ?_
    refine lv_iconst (v := 5) hx hb dX11_isGood_68 rfl ?_
    refine lv_iadd hx hb dX11_isGood_69 ?_
    obtain ⟨o3, hco3, h⟩ := bd_of h
    refine kS (rest := []) X dX11_isGood_70 wd_6_208 mw_X11_isTo wd_6_209 hP hS (fun _ z => z) (c_X11_isTo hco3) rfl hl.1 rfl (Nat.le_of_ble_eq_true rfl) rfl rfl ⟨Nat.le_of_ble_eq_true rfl, Nat.le_of_ble_eq_true rfl⟩ (fun H locs hP _ _ hS => ?_)
    refine W.eq (g2 := F0 m 73 ls [.int (bI o3)]) rfl ?_
    refine rb_eq (tgt := 105) hx hb dX11_isGood_73 rfl (fun c73 => ?_) (fun c73 => ?_)
    · have h := br_n c73 h
      exact b105    _ _ _ h hP hS (lv_sub hl [] rfl)
    · have h := br_p c73 h
      refine lv_lload hx hb dX11_isGood_76 (lv_at hl 5 rfl) ?_
      refine lv_iload hx hb dX11_isGood_78 (lv_at hl 0 rfl) ?_
      refine lv_iconst (v := 5) hx hb dX11_isGood_80 rfl ?_
      refine lv_iadd hx hb dX11_isGood_81 ?_
      obtain ⟨o4, hco4, h⟩ := bd_of h
      refine kS (rest := []) X dX11_isGood_82 wd_6_208 mw_X11_isTo wd_6_209 hP hS (fun _ z => z) (c_X11_isTo hco4) rfl hl.1 rfl (Nat.le_of_ble_eq_true rfl) rfl rfl ⟨Nat.le_of_ble_eq_true rfl, Nat.le_of_ble_eq_true rfl⟩ (fun H locs hP _ _ hS => ?_)
      refine W.eq (g2 := F0 m 85 ls [.int (bI o4)]) rfl ?_
      refine jx1 h (P := fun (v5 : Bool) => ∀ ls : Array Slot, lv_has ls 10 [] → W p l e rm_X11_isGood s m args below meth c H locs 0 0 Q (F0 m 106 ls [.int (bI v5)])) ?_ ?_
      · intro v5 h ls hl
        exact ret h hP hS dX11_isGood_106
      · intro J h
        refine rb_eq (tgt := 105) hx hb dX11_isGood_85 rfl (fun c85 => ?_) (fun c85 => ?_)
        · refine lv_iconst (v := 0) hx hb dX11_isGood_105 rfl ?_
          exact J _ (lt_in c85 h) ls (lv_sub hl [] rfl)
        · refine lv_lload_n hx hb dX11_isGood_88 rfl (lv_at hl 4 rfl) ?_
          refine lv_lconst (v := 0) hx hb dX11_isGood_89 rfl ?_
          refine rl_ne (tgt := 101) hx hb dX11_isGood_90 dX11_isGood_91 rfl (fun c90 => ?_) (fun c90 => ?_)
          · refine lv_iconst (v := 1) hx hb dX11_isGood_101 rfl ?_
            refine lv_goto (tgt := 106) hx hb dX11_isGood_102 rfl ?_
            exact J _ (lt_in c90 (lt_ip c85 h)) ls (lv_sub hl [] rfl)
          · refine lv_lload hx hb dX11_isGood_94 (lv_at hl 5 rfl) ?_
            refine lv_lconst (v := 0) hx hb dX11_isGood_96 rfl ?_
            refine rl_eq (tgt := 105) hx hb dX11_isGood_97 dX11_isGood_98 rfl (fun c97 => ?_) (fun c97 => ?_)
            · refine lv_iconst (v := 0) hx hb dX11_isGood_105 rfl ?_
              exact J _ (lt_ip c97 (lt_ip c90 (lt_ip c85 h))) ls (lv_sub hl [] rfl)
            · refine lv_iconst (v := 1) hx hb dX11_isGood_101 rfl ?_
              refine lv_goto (tgt := 106) hx hb dX11_isGood_102 rfl ?_
              exact J _ (lt_in c97 (lt_ip c90 (lt_ip c85 h))) ls (lv_sub hl [] rfl)
  have h := br_n c9_1 h
  by_cases c9_2 : p1 = 2
  · have h := br_p c9_2 h
    refine lv_tableIn (off := 98) (tgt := 107) hx hb dX11_isGood_9 (by rw [c9_2]; decide) (by rw [c9_2]; decide) (by rw [c9_2]; rfl) rfl ?_
    refine lv_lload_n hx hb dX11_isGood_107 rfl (lv_at hl 4 rfl) ?_
    refine lv_iload hx hb dX11_isGood_108 (lv_at hl 0 rfl) ?_
    refine lv_iconst (v := 4) hx hb dX11_isGood_110 rfl ?_
    refine lv_iadd hx hb dX11_isGood_111 ?_
    obtain ⟨o6, hco6, h⟩ := bd_of h
    refine kS (rest := []) X dX11_isGood_112 wd_6_208 mw_X11_isTo wd_6_209 hP hS (fun _ z => z) (c_X11_isTo hco6) rfl hl.1 rfl (Nat.le_of_ble_eq_true rfl) rfl rfl ⟨Nat.le_of_ble_eq_true rfl, Nat.le_of_ble_eq_true rfl⟩ (fun H locs hP _ _ hS => ?_)
    refine W.eq (g2 := F0 m 115 ls [.int (bI o6)]) rfl ?_
    refine rb_eq (tgt := 134) hx hb dX11_isGood_115 rfl (fun c115 => ?_) (fun c115 => ?_)
    · have h := br_n c115 h
      exact b134    _ _ _ h hP hS (lv_sub hl [] rfl)
    · have h := br_p c115 h
      refine lv_lload hx hb dX11_isGood_118 (lv_at hl 5 rfl) ?_
      refine lv_iload hx hb dX11_isGood_120 (lv_at hl 0 rfl) ?_
      refine lv_iconst (v := 4) hx hb dX11_isGood_122 rfl ?_
      refine lv_iadd hx hb dX11_isGood_123 ?_
      obtain ⟨o7, hco7, h⟩ := bd_of h
      refine kS (rest := []) X dX11_isGood_124 wd_6_208 mw_X11_isTo wd_6_209 hP hS (fun _ z => z) (c_X11_isTo hco7) rfl hl.1 rfl (Nat.le_of_ble_eq_true rfl) rfl rfl ⟨Nat.le_of_ble_eq_true rfl, Nat.le_of_ble_eq_true rfl⟩ (fun H locs hP _ _ hS => ?_)
      refine W.eq (g2 := F0 m 127 ls [.int (bI o7)]) rfl ?_
      refine jx1 h (P := fun (v8 : Bool) => ∀ ls : Array Slot, lv_has ls 10 [] → W p l e rm_X11_isGood s m args below meth c H locs 0 0 Q (F0 m 135 ls [.int (bI v8)])) ?_ ?_
      · intro v8 h ls hl
        exact ret h hP hS dX11_isGood_135
      · intro J h
        refine rb_eq (tgt := 134) hx hb dX11_isGood_127 rfl (fun c127 => ?_) (fun c127 => ?_)
        · refine lv_iconst (v := 0) hx hb dX11_isGood_134 rfl ?_
          exact J _ (lt_in c127 h) ls (lv_sub hl [] rfl)
        · refine lv_iconst (v := 1) hx hb dX11_isGood_130 rfl ?_
          refine lv_goto (tgt := 135) hx hb dX11_isGood_131 rfl ?_
          exact J _ (lt_ip c127 h) ls (lv_sub hl [] rfl)
  have h := br_n c9_2 h
  by_cases c9_3 : p1 = 3
  · have h := br_p c9_3 h
    refine lv_tableIn (off := 127) (tgt := 136) hx hb dX11_isGood_9 (by rw [c9_3]; decide) (by rw [c9_3]; decide) (by rw [c9_3]; rfl) rfl ?_
    refine lv_lload_n hx hb dX11_isGood_136 rfl (lv_at hl 4 rfl) ?_
    refine lv_iload hx hb dX11_isGood_137 (lv_at hl 0 rfl) ?_
    refine lv_iconst (v := 4) hx hb dX11_isGood_139 rfl ?_
    refine lv_iadd hx hb dX11_isGood_140 ?_
    obtain ⟨o9, hco9, h⟩ := bd_of h
    refine kS (rest := []) X dX11_isGood_141 wd_6_208 mw_X11_isTo wd_6_209 hP hS (fun _ z => z) (c_X11_isTo hco9) rfl hl.1 rfl (Nat.le_of_ble_eq_true rfl) rfl rfl ⟨Nat.le_of_ble_eq_true rfl, Nat.le_of_ble_eq_true rfl⟩ (fun H locs hP _ _ hS => ?_)
    refine W.eq (g2 := F0 m 144 ls [.int (bI o9)]) rfl ?_
    refine rb_eq (tgt := 186) hx hb dX11_isGood_144 rfl (fun c144 => ?_) (fun c144 => ?_)
    · have h := br_n c144 h
      exact b186    _ _ _ h hP hS (lv_sub hl [] rfl)
    · have h := br_p c144 h
      refine lv_lload hx hb dX11_isGood_147 (lv_at hl 5 rfl) ?_
      refine lv_iload hx hb dX11_isGood_149 (lv_at hl 0 rfl) ?_
      refine lv_iconst (v := 4) hx hb dX11_isGood_151 rfl ?_
      refine lv_iadd hx hb dX11_isGood_152 ?_
      obtain ⟨o10, hco10, h⟩ := bd_of h
      refine kS (rest := []) X dX11_isGood_153 wd_6_208 mw_X11_isTo wd_6_209 hP hS (fun _ z => z) (c_X11_isTo hco10) rfl hl.1 rfl (Nat.le_of_ble_eq_true rfl) rfl rfl ⟨Nat.le_of_ble_eq_true rfl, Nat.le_of_ble_eq_true rfl⟩ (fun H locs hP _ _ hS => ?_)
      refine W.eq (g2 := F0 m 156 ls [.int (bI o10)]) rfl ?_
      refine rb_eq (tgt := 186) hx hb dX11_isGood_156 rfl (fun c156 => ?_) (fun c156 => ?_)
      · have h := br_n c156 h
        exact b186    _ _ _ h hP hS (lv_sub hl [] rfl)
      · have h := br_p c156 h
        refine lv_lload hx hb dX11_isGood_159 (lv_at hl 5 rfl) ?_
        refine lv_lconst (v := 0) hx hb dX11_isGood_161 rfl ?_
        refine rl_eq (tgt := 186) hx hb dX11_isGood_162 dX11_isGood_163 rfl (fun c162 => ?_) (fun c162 => ?_)
        · have h := br_p c162 h
          exact b186    _ _ _ h hP hS (lv_sub hl [] rfl)
        · have h := br_n c162 h
          refine lv_lload_n hx hb dX11_isGood_166 rfl (lv_at hl 4 rfl) ?_
          obtain ⟨o11, hco11, h⟩ := bd_of h
          refine kS (rest := []) X dX11_isGood_167 wd_6_211 mw_J9_abs_067f4 wd_3_171 hP hS (fun _ z => z) (c_J9_abs_067f4 hco11) rfl hl.1 rfl (Nat.le_of_ble_eq_true rfl) rfl rfl ⟨Nat.le_of_ble_eq_true rfl, Nat.le_of_ble_eq_true rfl⟩ (fun H locs hP _ _ hS => ?_)
          refine W.eq (g2 := F0 m 170 ls [.long o11]) rfl ?_
          refine lv_lload hx hb dX11_isGood_170 (lv_at hl 5 rfl) ?_
          obtain ⟨o12, hco12, h⟩ := bd_of h
          refine kS (rest := [.long o11]) X dX11_isGood_172 wd_6_211 mw_J9_abs_067f4 wd_3_171 hP hS (fun _ z => z) (c_J9_abs_067f4 hco12) rfl hl.1 rfl (Nat.le_of_ble_eq_true rfl) rfl rfl ⟨Nat.le_of_ble_eq_true rfl, Nat.le_of_ble_eq_true rfl⟩ (fun H locs hP _ _ hS => ?_)
          refine W.eq (g2 := F0 m 175 ls [.long o12, .long o11]) rfl ?_
          refine lv_bipush (v := 6) hx hb dX11_isGood_175 rfl ?_
          refine lv_lshl hx hb dX11_isGood_177 rfl ?_
          refine jx1 h (P := fun (v13 : Bool) => ∀ ls : Array Slot, lv_has ls 10 [] → W p l e rm_X11_isGood s m args below meth c H locs 0 0 Q (F0 m 187 ls [.int (bI v13)])) ?_ ?_
          · intro v13 h ls hl
            exact ret h hP hS dX11_isGood_187
          · intro J h
            refine rl_gt (tgt := 186) hx hb dX11_isGood_178 dX11_isGood_179 rfl (fun c178 => ?_) (fun c178 => ?_)
            · refine lv_iconst (v := 0) hx hb dX11_isGood_186 rfl ?_
              exact J _ (lt_ip c178 h) ls (lv_sub hl [] rfl)
            · refine lv_iconst (v := 1) hx hb dX11_isGood_182 rfl ?_
              refine lv_goto (tgt := 187) hx hb dX11_isGood_183 rfl ?_
              exact J _ (lt_in c178 h) ls (lv_sub hl [] rfl)
  have h := br_n c9_3 h
  by_cases c9_4 : p1 = 4
  · have h := br_p c9_4 h
    refine lv_tableIn (off := 179) (tgt := 188) hx hb dX11_isGood_9 (by rw [c9_4]; decide) (by rw [c9_4]; decide) (by rw [c9_4]; rfl) rfl ?_
    refine lv_lload_n hx hb dX11_isGood_188 rfl (lv_at hl 4 rfl) ?_
    refine lv_iload hx hb dX11_isGood_189 (lv_at hl 0 rfl) ?_
    obtain ⟨o14, hco14, h⟩ := bd_of h
    refine kS (rest := []) X dX11_isGood_191 wd_6_208 mw_X11_isTo wd_6_209 hP hS (fun _ z => z) (c_X11_isTo hco14) rfl hl.1 rfl (Nat.le_of_ble_eq_true rfl) rfl rfl ⟨Nat.le_of_ble_eq_true rfl, Nat.le_of_ble_eq_true rfl⟩ (fun H locs hP _ _ hS => ?_)
    refine W.eq (g2 := F0 m 194 ls [.int (bI o14)]) rfl ?_
    exact ret h hP hS dX11_isGood_194
  have h := br_n c9_4 h
  by_cases c9_5 : p1 = 5
  · have h := br_p c9_5 h
    refine lv_tableIn (off := 186) (tgt := 195) hx hb dX11_isGood_9 (by rw [c9_5]; decide) (by rw [c9_5]; decide) (by rw [c9_5]; rfl) rfl ?_
    refine lv_lload_n hx hb dX11_isGood_195 rfl (lv_at hl 4 rfl) ?_
    refine lv_iload hx hb dX11_isGood_196 (lv_at hl 0 rfl) ?_
    refine lv_iconst (v := 2) hx hb dX11_isGood_198 rfl ?_
    refine lv_iadd hx hb dX11_isGood_199 ?_
    obtain ⟨o15, hco15, h⟩ := bd_of h
    refine kS (rest := []) X dX11_isGood_200 wd_6_208 mw_X11_isTo wd_6_209 hP hS (fun _ z => z) (c_X11_isTo hco15) rfl hl.1 rfl (Nat.le_of_ble_eq_true rfl) rfl rfl ⟨Nat.le_of_ble_eq_true rfl, Nat.le_of_ble_eq_true rfl⟩ (fun H locs hP _ _ hS => ?_)
    refine W.eq (g2 := F0 m 203 ls [.int (bI o15)]) rfl ?_
    exact ret h hP hS dX11_isGood_203
  have h := br_n c9_5 h
  by_cases c9_6 : p1 = 6
  · have h := br_p c9_6 h
    refine lv_tableIn (off := 195) (tgt := 204) hx hb dX11_isGood_9 (by rw [c9_6]; decide) (by rw [c9_6]; decide) (by rw [c9_6]; rfl) rfl ?_
    exact b204   p2 v1 _ _ _ h hP hS (lv_sub hl [4, 0] rfl)
  have h := br_n c9_6 h
  by_cases c9_7 : p1 = 7
  · have h := br_p c9_7 h
    refine lv_tableIn (off := 195) (tgt := 204) hx hb dX11_isGood_9 (by rw [c9_7]; decide) (by rw [c9_7]; decide) (by rw [c9_7]; rfl) rfl ?_
    exact b204   p2 v1 _ _ _ h hP hS (lv_sub hl [4, 0] rfl)
  have h := br_n c9_7 h
  refine lv_tableOut (tgt := 227) hx hb dX11_isGood_9 (by have := lv_neT (a := 0) c9_0 rfl; have := lv_neT (a := 1) c9_1 rfl; have := lv_neT (a := 2) c9_2 rfl; have := lv_neT (a := 3) c9_3 rfl; have := lv_neT (a := 4) c9_4 rfl; have := lv_neT (a := 5) c9_5 rfl; have := lv_neT (a := 6) c9_6 rfl; have := lv_neT (a := 7) c9_7 rfl; omega) rfl ?_
  refine lv_lload_n hx hb dX11_isGood_227 rfl (lv_at hl 4 rfl) ?_
  refine lv_iload hx hb dX11_isGood_228 (lv_at hl 0 rfl) ?_
  refine lv_iconst (v := 4) hx hb dX11_isGood_230 rfl ?_
  refine lv_iadd hx hb dX11_isGood_231 ?_
  obtain ⟨o18, hco18, h⟩ := bd_of h
  refine kS (rest := []) X dX11_isGood_232 wd_6_208 mw_X11_isTo wd_6_209 hP hS (fun _ z => z) (c_X11_isTo hco18) rfl hl.1 rfl (Nat.le_of_ble_eq_true rfl) rfl rfl ⟨Nat.le_of_ble_eq_true rfl, Nat.le_of_ble_eq_true rfl⟩ (fun H locs hP _ _ hS => ?_)
  refine W.eq (g2 := F0 m 235 ls [.int (bI o18)]) rfl ?_
  refine rb_eq (tgt := 266) hx hb dX11_isGood_235 rfl (fun c235 => ?_) (fun c235 => ?_)
  · have h := br_n c235 h
    exact b266    _ _ _ h hP hS (lv_sub hl [] rfl)
  · have h := br_p c235 h
    refine lv_lload hx hb dX11_isGood_238 (lv_at hl 5 rfl) ?_
    refine lv_iload hx hb dX11_isGood_240 (lv_at hl 0 rfl) ?_
    refine lv_iconst (v := 4) hx hb dX11_isGood_242 rfl ?_
    refine lv_iadd hx hb dX11_isGood_243 ?_
    obtain ⟨o19, hco19, h⟩ := bd_of h
    refine kS (rest := []) X dX11_isGood_244 wd_6_208 mw_X11_isTo wd_6_209 hP hS (fun _ z => z) (c_X11_isTo hco19) rfl hl.1 rfl (Nat.le_of_ble_eq_true rfl) rfl rfl ⟨Nat.le_of_ble_eq_true rfl, Nat.le_of_ble_eq_true rfl⟩ (fun H locs hP _ _ hS => ?_)
    refine W.eq (g2 := F0 m 247 ls [.int (bI o19)]) rfl ?_
    refine rb_eq (tgt := 266) hx hb dX11_isGood_247 rfl (fun c247 => ?_) (fun c247 => ?_)
    · have h := br_n c247 h
      exact b266    _ _ _ h hP hS (lv_sub hl [] rfl)
    · have h := br_p c247 h
      refine lv_lload hx hb dX11_isGood_250 (lv_at hl 6 rfl) ?_
      refine lv_iload hx hb dX11_isGood_252 (lv_at hl 0 rfl) ?_
      refine lv_iconst (v := 5) hx hb dX11_isGood_254 rfl ?_
      refine lv_iadd hx hb dX11_isGood_255 ?_
      obtain ⟨o20, hco20, h⟩ := bd_of h
      refine kS (rest := []) X dX11_isGood_256 wd_6_208 mw_X11_isTo wd_6_209 hP hS (fun _ z => z) (c_X11_isTo hco20) rfl hl.1 rfl (Nat.le_of_ble_eq_true rfl) rfl rfl ⟨Nat.le_of_ble_eq_true rfl, Nat.le_of_ble_eq_true rfl⟩ (fun H locs hP _ _ hS => ?_)
      refine W.eq (g2 := F0 m 259 ls [.int (bI o20)]) rfl ?_
      refine jx1 h (P := fun (v21 : Bool) => ∀ ls : Array Slot, lv_has ls 10 [] → W p l e rm_X11_isGood s m args below meth c H locs 0 0 Q (F0 m 267 ls [.int (bI v21)])) ?_ ?_
      · intro v21 h ls hl
        exact ret h hP hS dX11_isGood_267
      · intro J h
        refine rb_eq (tgt := 266) hx hb dX11_isGood_259 rfl (fun c259 => ?_) (fun c259 => ?_)
        · refine lv_iconst (v := 0) hx hb dX11_isGood_266 rfl ?_
          exact J _ (lt_in c259 h) ls (lv_sub hl [] rfl)
        · refine lv_iconst (v := 1) hx hb dX11_isGood_262 rfl ?_
          refine lv_goto (tgt := 267) hx hb dX11_isGood_263 rfl ?_
          exact J _ (lt_ip c259 h) ls (lv_sub hl [] rfl)
abbrev rm_X11_quarters : Room := { frames := 1, cells := 0, slots := 0, locals := 25 }
set_option maxRecDepth 100000 in
set_option maxHeartbeats 4000000 in
theorem c_X11_quarters {g : gT} {l : Launch} {A : Nat → Prop} {q : Nat → Nat} {m_thrown : Int32} {m_length : Int32} {m_at : Int32} {m_fault : Int32} {m_toldWords : Int32} {m_orders : Int32} {m_value : Int32} {m_hasUnit : Bool} {m_places : Int32} {m_clocks : Int32} {m_held : Bool} {m_x : Int64} {m_y : Int64} {m_z : Int64} {m_first : Int64} {m_second : Int64} {m_aside : Int32} {m_jobs : Int32} {m_jobsImage : Int32} {m_clocksImage : Int32} {m_heldImage : Bool} {m_hasImage : Bool} {m_tape : Nat → Int32} {m_read : Nat → Int32} {m_order : Nat → Int32} {m_width : Nat → Int32} {m_guard : Nat → Int32} {m_points : Nat → Int32} {m_stages : Nat → Int32} {m_gain : Nat → Int32} {m_undo : Nat → Int32} {m_near : Nat → Bool} {m_quarter : Nat → Int64} {m_ln : Nat → Int64} {m_angle : Nat → Int64} {m_shift : Nat → Int32} {m_digit : Nat → Int32} {m_refused : Nat → Int32} {m_job : Nat → Int32} {m_jobKept : Nat → Int32} {m_result : Nat → Int32} {m_resultKept : Nat → Int32} {m_trace : Nat → Int64} {m_traceKept : Nat → Int64} {m_jobImage : Nat → Int32} {m_resultImage : Nat → Int32} {m_traceImage : Nat → Int64} {p0 : Int32} {p1 : Int64} {o : Int32} (h : f_X11_quarters p0 p1 m_quarter = some o) : Std g l yX11_quarters (.code yX11_quarters cX11_quarters 4 (some .int) :: gw) rm_X11_quarters A [.ref (q 0), .int p0, .long p1] (wM g q m_thrown m_length m_at m_fault m_toldWords m_orders m_value m_hasUnit m_places m_clocks m_held m_x m_y m_z m_first m_second m_aside m_jobs m_jobsImage m_clocksImage m_heldImage m_hasImage m_tape m_read m_order m_width m_guard m_points m_stages m_gain m_undo m_near m_quarter m_ln m_angle m_shift m_digit m_refused m_job m_jobKept m_result m_resultKept m_trace m_traceKept m_jobImage m_resultImage m_traceImage) (wM g q m_thrown m_length m_at m_fault m_toldWords m_orders m_value m_hasUnit m_places m_clocks m_held m_x m_y m_z m_first m_second m_aside m_jobs m_jobsImage m_clocksImage m_heldImage m_hasImage m_tape m_read m_order m_width m_guard m_points m_stages m_gain m_undo m_near m_quarter m_ln m_angle m_shift m_digit m_refused m_job m_jobKept m_result m_resultKept m_trace m_traceKept m_jobImage m_resultImage m_traceImage) (some (.int o)) := by
  refine std_i (own := RX11) (by decide +kernel) rfl (Nat.le_of_ble_eq_true rfl) ?_
  intro p e s m args below meth c Q X ret H locs hP hS ls hl
  have hx := X.1
  have hb := X.2.1
  have hl : lv_has ls 4 [(0, .ref (q 0)), (1, .int p0), (2, .long p1)] := hl
  have ret : ∀ {H : Heap} {locs : List Loc} {pc : Nat} {ls : Array Slot} {v : Int32} , some (v) = some o → WP g A (wM g q m_thrown m_length m_at m_fault m_toldWords m_orders m_value m_hasUnit m_places m_clocks m_held m_x m_y m_z m_first m_second m_aside m_jobs m_jobsImage m_clocksImage m_heldImage m_hasImage m_tape m_read m_order m_width m_guard m_points m_stages m_gain m_undo m_near m_quarter m_ln m_angle m_shift m_digit m_refused m_job m_jobKept m_result m_resultKept m_trace m_traceKept m_jobImage m_resultImage m_traceImage) H → va_S A s.heap H locs → decode cX11_quarters pc = .ok (.ireturn, 1) → W p l e rm_X11_quarters s m args below meth c H locs 0 0 Q (F0 m pc ls [.int v]) := by
    intro H locs pc ls v h hP hS hd
    cases h
    exact ret hP hS hd
  unfold f_X11_quarters at h
  refine lv_ldc2 (v := 2) hx hb X.2.2.2.1 (X.2.2.2.2.1 _ wd_5_201) dX11_quarters_0 ?_
  refine lv_lload_n hx hb dX11_quarters_3 rfl (lv_at hl 2 rfl) ?_
  refine lv_lmul hx hb dX11_quarters_4 ?_
  refine lv_aload_n hx hb dX11_quarters_5 rfl (lv_at hl 0 rfl) ?_
  refine gf_X11_199_M_0 X hP dX11_quarters_6 ?_
  refine lv_iload_n hx hb dX11_quarters_9 rfl (lv_at hl 1 rfl) ?_
  obtain ⟨hi10, h⟩ := gv_of h
  refine al_M_11 X hP hi10 dX11_quarters_10 ?_
  refine lv_ladd hx hb dX11_quarters_11 ?_
  refine lv_ldc2 (v := 2) hx hb X.2.2.2.1 (X.2.2.2.2.1 _ wd_5_201) dX11_quarters_12 ?_
  refine lv_aload_n hx hb dX11_quarters_15 rfl (lv_at hl 0 rfl) ?_
  refine gf_X11_199_M_0 X hP dX11_quarters_16 ?_
  refine lv_iload_n hx hb dX11_quarters_19 rfl (lv_at hl 1 rfl) ?_
  obtain ⟨hi20, h⟩ := gv_of h
  refine al_M_11 X hP hi20 dX11_quarters_20 ?_
  refine lv_lmul hx hb dX11_quarters_21 ?_
  obtain ⟨o1, hco1, h⟩ := bd_of h
  refine kS (rest := []) X dX11_quarters_22 wd_6_220 mw_J9_floorDiv_f86c9 wd_3_186 hP hS (fun _ z => z) (c_J9_floorDiv_f86c9 hco1) rfl hl.1 rfl (Nat.le_of_ble_eq_true rfl) rfl rfl ⟨Nat.le_of_ble_eq_true rfl, Nat.le_of_ble_eq_true rfl⟩ (fun H locs hP _ _ hS => ?_)
  refine W.eq (g2 := F0 m 25 ls [.long o1]) rfl ?_
  refine lv_l2i hx hb dX11_quarters_25 rfl ?_
  exact ret h hP hS dX11_quarters_26
abbrev rm_X11_turns : Room := { frames := 0, cells := 0, slots := 0, locals := 0 }
set_option maxRecDepth 100000 in
set_option maxHeartbeats 4000000 in
theorem c_X11_turns {g : gT} {l : Launch} {A : Nat → Prop} {q : Nat → Nat} {m_thrown : Int32} {m_length : Int32} {m_at : Int32} {m_fault : Int32} {m_toldWords : Int32} {m_orders : Int32} {m_value : Int32} {m_hasUnit : Bool} {m_places : Int32} {m_clocks : Int32} {m_held : Bool} {m_x : Int64} {m_y : Int64} {m_z : Int64} {m_first : Int64} {m_second : Int64} {m_aside : Int32} {m_jobs : Int32} {m_jobsImage : Int32} {m_clocksImage : Int32} {m_heldImage : Bool} {m_hasImage : Bool} {m_tape : Nat → Int32} {m_read : Nat → Int32} {m_order : Nat → Int32} {m_width : Nat → Int32} {m_guard : Nat → Int32} {m_points : Nat → Int32} {m_stages : Nat → Int32} {m_gain : Nat → Int32} {m_undo : Nat → Int32} {m_near : Nat → Bool} {m_quarter : Nat → Int64} {m_ln : Nat → Int64} {m_angle : Nat → Int64} {m_shift : Nat → Int32} {m_digit : Nat → Int32} {m_refused : Nat → Int32} {m_job : Nat → Int32} {m_jobKept : Nat → Int32} {m_result : Nat → Int32} {m_resultKept : Nat → Int32} {m_trace : Nat → Int64} {m_traceKept : Nat → Int64} {m_jobImage : Nat → Int32} {m_resultImage : Nat → Int32} {m_traceImage : Nat → Int64} {p0 : Int32} {p1 : Int64} {p2 : Int64} {o : Int64 × Int64} (h : f_X11_turns p0 p1 p2 m_first m_second = some o) : Std g l yX11_turns (.code yX11_turns cX11_turns 7 none :: gw) rm_X11_turns A [.ref (q 0), .int p0, .long p1, .long p2] (wM g q m_thrown m_length m_at m_fault m_toldWords m_orders m_value m_hasUnit m_places m_clocks m_held m_x m_y m_z m_first m_second m_aside m_jobs m_jobsImage m_clocksImage m_heldImage m_hasImage m_tape m_read m_order m_width m_guard m_points m_stages m_gain m_undo m_near m_quarter m_ln m_angle m_shift m_digit m_refused m_job m_jobKept m_result m_resultKept m_trace m_traceKept m_jobImage m_resultImage m_traceImage) (wM g q m_thrown m_length m_at m_fault m_toldWords m_orders m_value m_hasUnit m_places m_clocks m_held m_x m_y m_z o.1 o.2 m_aside m_jobs m_jobsImage m_clocksImage m_heldImage m_hasImage m_tape m_read m_order m_width m_guard m_points m_stages m_gain m_undo m_near m_quarter m_ln m_angle m_shift m_digit m_refused m_job m_jobKept m_result m_resultKept m_trace m_traceKept m_jobImage m_resultImage m_traceImage) none := by
  refine std_v (own := RX11) (by decide +kernel) rfl (Nat.le_of_ble_eq_true rfl) ?_
  intro p e s m args below meth c Q X ret H locs hP hS ls hl
  have hx := X.1
  have hb := X.2.1
  have hl : lv_has ls 7 [(0, .ref (q 0)), (1, .int p0), (2, .long p1), (4, .long p2)] := hl
  have ret : ∀ {H : Heap} {locs : List Loc} {pc : Nat} {ls : Array Slot} {m_first : Int64} {m_second : Int64}, some (m_first, m_second) = some o → WP g A (wM g q m_thrown m_length m_at m_fault m_toldWords m_orders m_value m_hasUnit m_places m_clocks m_held m_x m_y m_z m_first m_second m_aside m_jobs m_jobsImage m_clocksImage m_heldImage m_hasImage m_tape m_read m_order m_width m_guard m_points m_stages m_gain m_undo m_near m_quarter m_ln m_angle m_shift m_digit m_refused m_job m_jobKept m_result m_resultKept m_trace m_traceKept m_jobImage m_resultImage m_traceImage) H → va_S A s.heap H locs → decode cX11_turns pc = .ok (.return_, 1) → W p l e rm_X11_turns s m args below meth c H locs 0 0 Q (F0 m pc ls []) := by
    intro H locs pc ls m_first m_second h hP hS hd
    cases h
    exact ret hP hS hd
  unfold f_X11_turns at h
  refine lv_iload_n hx hb dX11_turns_0 rfl (lv_at hl 1 rfl) ?_
  refine lv_iconst (v := 3) hx hb dX11_turns_1 rfl ?_
  refine lv_iand hx hb dX11_turns_2 ?_
  refine lv_topi (fun v1 ev1 => ?_)
  have h := lt_at ev1 h
  refine lv_istore (lv' := [(6, .int v1), (0, .ref (q 0)), (1, .int p0), (2, .long p1), (4, .long p2)]) hx hb dX11_turns_3 hl (by decide) rfl (fun ls hl => ?_)
  refine lv_aload_n hx hb dX11_turns_5 rfl (lv_at hl 1 rfl) ?_
  refine lv_iload hx hb dX11_turns_6 (lv_at hl 0 rfl) ?_
  refine jx1 h (P := fun (v2 : Int64) => ∀ ls : Array Slot, lv_has ls 7 [(0, .ref (q 0)), (2, .long p1), (4, .long p2), (6, .int v1)] → W p l e rm_X11_turns s m args below meth c H locs 0 0 Q (F0 m 40 ls [.long v2, .ref (q 0)])) ?_ ?_
  · intro v2 h ls hl
    refine pf_X11_324_M_0 (v0 := v2) X hP hS dX11_turns_40 (fun H locs hP hS => ?_)
    refine lv_aload_n hx hb dX11_turns_43 rfl (lv_at hl 0 rfl) ?_
    refine lv_iload hx hb dX11_turns_44 (lv_at hl 3 rfl) ?_
    refine jx1 h (P := fun (v3 : Int64) => ∀ ls : Array Slot, lv_has ls 7 [] → W p l e rm_X11_turns s m args below meth c H locs 0 0 Q (F0 m 78 ls [.long v3, .ref (q 0)])) ?_ ?_
    · intro v3 h ls hl
      refine pf_X11_328_M_0 (v0 := v3) X hP hS dX11_turns_78 (fun H locs hP hS => ?_)
      exact ret h hP hS dX11_turns_81
    · intro J h
      refine lv_if_ne (tgt := 54) hx hb dX11_turns_46 rfl (fun c46 => ?_) (fun c46 => ?_)
      · refine lv_iload hx hb dX11_turns_54 (lv_at hl 3 rfl) ?_
        refine lv_iconst (v := 1) hx hb dX11_turns_56 rfl ?_
        refine lv_icmp_ne (tgt := 64) hx hb dX11_turns_57 rfl (fun c57 => ?_) (fun c57 => ?_)
        · refine lv_iload hx hb dX11_turns_64 (lv_at hl 3 rfl) ?_
          refine lv_iconst (v := 2) hx hb dX11_turns_66 rfl ?_
          refine lv_icmp_ne (tgt := 76) hx hb dX11_turns_67 rfl (fun c67 => ?_) (fun c67 => ?_)
          · refine lv_lload_n hx hb dX11_turns_76 rfl (lv_at hl 1 rfl) ?_
            refine lv_lneg hx hb dX11_turns_77 ?_
            exact J _ (lt_in c67 (lt_in c57 (lt_in c46 h))) ls (lv_sub hl [] rfl)
          · refine lv_lload hx hb dX11_turns_70 (lv_at hl 2 rfl) ?_
            refine lv_lneg hx hb dX11_turns_72 ?_
            refine lv_goto (tgt := 78) hx hb dX11_turns_73 rfl ?_
            exact J _ (lt_ip c67 (lt_in c57 (lt_in c46 h))) ls (lv_sub hl [] rfl)
        · refine lv_lload_n hx hb dX11_turns_60 rfl (lv_at hl 1 rfl) ?_
          refine lv_goto (tgt := 78) hx hb dX11_turns_61 rfl ?_
          exact J _ (lt_ip c57 (lt_in c46 h)) ls (lv_sub hl [] rfl)
      · refine lv_lload hx hb dX11_turns_49 (lv_at hl 2 rfl) ?_
        refine lv_goto (tgt := 78) hx hb dX11_turns_51 rfl ?_
        exact J _ (lt_ip c46 h) ls (lv_sub hl [] rfl)
  · intro J h
    refine lv_if_ne (tgt := 15) hx hb dX11_turns_8 rfl (fun c8 => ?_) (fun c8 => ?_)
    · refine lv_iload hx hb dX11_turns_15 (lv_at hl 0 rfl) ?_
      refine lv_iconst (v := 1) hx hb dX11_turns_17 rfl ?_
      refine lv_icmp_ne (tgt := 27) hx hb dX11_turns_18 rfl (fun c18 => ?_) (fun c18 => ?_)
      · refine lv_iload hx hb dX11_turns_27 (lv_at hl 0 rfl) ?_
        refine lv_iconst (v := 2) hx hb dX11_turns_29 rfl ?_
        refine lv_icmp_ne (tgt := 38) hx hb dX11_turns_30 rfl (fun c30 => ?_) (fun c30 => ?_)
        · refine lv_lload hx hb dX11_turns_38 (lv_at hl 4 rfl) ?_
          exact J _ (lt_in c30 (lt_in c18 (lt_in c8 h))) ls (lv_sub hl [1, 3, 4, 0] rfl)
        · refine lv_lload_n hx hb dX11_turns_33 rfl (lv_at hl 3 rfl) ?_
          refine lv_lneg hx hb dX11_turns_34 ?_
          refine lv_goto (tgt := 40) hx hb dX11_turns_35 rfl ?_
          exact J _ (lt_ip c30 (lt_in c18 (lt_in c8 h))) ls (lv_sub hl [1, 3, 4, 0] rfl)
      · refine lv_lload hx hb dX11_turns_21 (lv_at hl 4 rfl) ?_
        refine lv_lneg hx hb dX11_turns_23 ?_
        refine lv_goto (tgt := 40) hx hb dX11_turns_24 rfl ?_
        exact J _ (lt_ip c18 (lt_in c8 h)) ls (lv_sub hl [1, 3, 4, 0] rfl)
    · refine lv_lload_n hx hb dX11_turns_11 rfl (lv_at hl 3 rfl) ?_
      refine lv_goto (tgt := 40) hx hb dX11_turns_12 rfl ?_
      exact J _ (lt_ip c8 h) ls (lv_sub hl [1, 3, 4, 0] rfl)
abbrev rm_X11_moved : Room := { frames := 1, cells := 0, slots := 0, locals := 24 }
set_option maxRecDepth 100000 in
set_option maxHeartbeats 4000000 in
theorem c_X11_moved {g : gT} {l : Launch} {A : Nat → Prop} {q : Nat → Nat} {m_thrown : Int32} {m_length : Int32} {m_at : Int32} {m_fault : Int32} {m_toldWords : Int32} {m_orders : Int32} {m_value : Int32} {m_hasUnit : Bool} {m_places : Int32} {m_clocks : Int32} {m_held : Bool} {m_x : Int64} {m_y : Int64} {m_z : Int64} {m_first : Int64} {m_second : Int64} {m_aside : Int32} {m_jobs : Int32} {m_jobsImage : Int32} {m_clocksImage : Int32} {m_heldImage : Bool} {m_hasImage : Bool} {m_tape : Nat → Int32} {m_read : Nat → Int32} {m_order : Nat → Int32} {m_width : Nat → Int32} {m_guard : Nat → Int32} {m_points : Nat → Int32} {m_stages : Nat → Int32} {m_gain : Nat → Int32} {m_undo : Nat → Int32} {m_near : Nat → Bool} {m_quarter : Nat → Int64} {m_ln : Nat → Int64} {m_angle : Nat → Int64} {m_shift : Nat → Int32} {m_digit : Nat → Int32} {m_refused : Nat → Int32} {m_job : Nat → Int32} {m_jobKept : Nat → Int32} {m_result : Nat → Int32} {m_resultKept : Nat → Int32} {m_trace : Nat → Int64} {m_traceKept : Nat → Int64} {m_jobImage : Nat → Int32} {m_resultImage : Nat → Int32} {m_traceImage : Nat → Int64} {p0 : Int32} {p1 : Int64} {p2 : Int32} {o : Int64} (h : f_X11_moved p0 p1 p2 m_near = some o) : Std g l yX11_moved (.code yX11_moved cX11_moved 5 (some .long) :: gw) rm_X11_moved A [.ref (q 0), .int p0, .long p1, .int p2] (wM g q m_thrown m_length m_at m_fault m_toldWords m_orders m_value m_hasUnit m_places m_clocks m_held m_x m_y m_z m_first m_second m_aside m_jobs m_jobsImage m_clocksImage m_heldImage m_hasImage m_tape m_read m_order m_width m_guard m_points m_stages m_gain m_undo m_near m_quarter m_ln m_angle m_shift m_digit m_refused m_job m_jobKept m_result m_resultKept m_trace m_traceKept m_jobImage m_resultImage m_traceImage) (wM g q m_thrown m_length m_at m_fault m_toldWords m_orders m_value m_hasUnit m_places m_clocks m_held m_x m_y m_z m_first m_second m_aside m_jobs m_jobsImage m_clocksImage m_heldImage m_hasImage m_tape m_read m_order m_width m_guard m_points m_stages m_gain m_undo m_near m_quarter m_ln m_angle m_shift m_digit m_refused m_job m_jobKept m_result m_resultKept m_trace m_traceKept m_jobImage m_resultImage m_traceImage) (some (.long o)) := by
  refine std_l (own := RX11) (by decide +kernel) rfl (Nat.le_of_ble_eq_true rfl) ?_
  intro p e s m args below meth c Q X ret H locs hP hS ls hl
  have hx := X.1
  have hb := X.2.1
  have hl : lv_has ls 5 [(0, .ref (q 0)), (1, .int p0), (2, .long p1), (4, .int p2)] := hl
  have ret : ∀ {H : Heap} {locs : List Loc} {pc : Nat} {ls : Array Slot} {v : Int64} , some (v) = some o → WP g A (wM g q m_thrown m_length m_at m_fault m_toldWords m_orders m_value m_hasUnit m_places m_clocks m_held m_x m_y m_z m_first m_second m_aside m_jobs m_jobsImage m_clocksImage m_heldImage m_hasImage m_tape m_read m_order m_width m_guard m_points m_stages m_gain m_undo m_near m_quarter m_ln m_angle m_shift m_digit m_refused m_job m_jobKept m_result m_resultKept m_trace m_traceKept m_jobImage m_resultImage m_traceImage) H → va_S A s.heap H locs → decode cX11_moved pc = .ok (.lreturn, 1) → W p l e rm_X11_moved s m args below meth c H locs 0 0 Q (F0 m pc ls [.long v]) := by
    intro H locs pc ls v h hP hS hd
    cases h
    exact ret hP hS hd
  unfold f_X11_moved at h
  refine lv_iload hx hb dX11_moved_0 (lv_at hl 3 rfl) ?_
  refine lv_if_lt (tgt := 16) hx hb dX11_moved_2 rfl (fun c2 => ?_) (fun c2 => ?_)
  · have h := br_p c2 h
    refine lv_lload_n hx hb dX11_moved_16 rfl (lv_at hl 2 rfl) ?_
    refine lv_iload hx hb dX11_moved_17 (lv_at hl 3 rfl) ?_
    refine lv_ineg hx hb dX11_moved_19 ?_
    refine lv_lshl hx hb dX11_moved_20 rfl ?_
    exact ret h hP hS dX11_moved_21
  · have h := br_n c2 h
    refine lv_aload_n hx hb dX11_moved_5 rfl (lv_at hl 0 rfl) ?_
    refine lv_iload_n hx hb dX11_moved_6 rfl (lv_at hl 1 rfl) ?_
    refine lv_lload_n hx hb dX11_moved_7 rfl (lv_at hl 2 rfl) ?_
    refine lv_iload hx hb dX11_moved_8 (lv_at hl 3 rfl) ?_
    obtain ⟨o1, hco1, h⟩ := bd_of h
    refine kV (rest := []) X dX11_moved_10 wd_6_187 mw_X11_shifted wd_6_189 wp_8_1 hP (k0 := 0) rfl rfl rfl hS (fun _ z => z) (c_X11_shifted hco1) rfl hl.1 rfl (Nat.le_of_ble_eq_true rfl) rfl rfl ⟨Nat.le_of_ble_eq_true rfl, Nat.le_of_ble_eq_true rfl⟩ (fun H locs hP _ _ hS => ?_)
    refine W.eq (g2 := F0 m 13 ls [.long o1]) rfl ?_
    refine lv_goto (tgt := 21) hx hb dX11_moved_13 rfl ?_
    exact ret h hP hS dX11_moved_21
abbrev rm_J9_floorDiv_7cf53 : Room := { frames := 0, cells := 0, slots := 0, locals := 0 }
set_option maxRecDepth 100000 in
set_option maxHeartbeats 4000000 in
theorem c_J9_floorDiv_7cf53 {g : gT} {l : Launch} {A : Nat → Prop} {w : va_W} {p0 : Int32} {p1 : Int32} {o : Int32} (h : f_J9_floorDiv_7cf53 p0 p1  = some o) : Std g l yJ9_floorDiv_7cf53 (.code yJ9_floorDiv_7cf53 cJ9_floorDiv_7cf53 3 (some .int) :: gw) rm_J9_floorDiv_7cf53 A [.int p0, .int p1] w w (some (.int o)) := by
  refine std_i (own := RJ9) (by decide +kernel) rfl (Nat.le_of_ble_eq_true rfl) ?_
  intro p e s m args below meth c Q X ret H locs hP hS ls hl
  have hx := X.1
  have hb := X.2.1
  have hl : lv_has ls 3 [(0, .int p0), (1, .int p1)] := hl
  have ret : ∀ {H : Heap} {locs : List Loc} {pc : Nat} {ls : Array Slot} {v : Int32} , some (v) = some o → WP g A w H → va_S A s.heap H locs → decode cJ9_floorDiv_7cf53 pc = .ok (.ireturn, 1) → W p l e rm_J9_floorDiv_7cf53 s m args below meth c H locs 0 0 Q (F0 m pc ls [.int v]) := by
    intro H locs pc ls v h hP hS hd
    cases h
    exact ret hP hS hd
  have b21 : ∀ (x2 : Int32) (H : Heap) (locs : List Loc) (ls : Array Slot), f_J9_floorDiv_7cf53_b21    x2 = some o → WP g A w H → va_S A s.heap H locs → lv_has ls 3 [(2, .int x2)] → W p l e rm_J9_floorDiv_7cf53 s m args below meth c H locs 0 0 Q (F0 m 21 ls []) := by
    intro  x2 H locs ls h hP hS hl
    unfold f_J9_floorDiv_7cf53_b21 at h
    refine lv_iload_n hx hb dJ9_floorDiv_7cf53_21 rfl (lv_at hl 0 rfl) ?_
    exact ret h hP hS dJ9_floorDiv_7cf53_22
  unfold f_J9_floorDiv_7cf53 at h
  refine lv_iload_n hx hb dJ9_floorDiv_7cf53_0 rfl (lv_at hl 0 rfl) ?_
  refine lv_iload_n hx hb dJ9_floorDiv_7cf53_1 rfl (lv_at hl 1 rfl) ?_
  obtain ⟨cz2, h⟩ := gz_of h
  refine lv_idiv hx hb dJ9_floorDiv_7cf53_2 cz2 ?_
  refine lv_topi (fun v1 ev1 => ?_)
  have h := lt_at ev1 h
  refine lv_istore_n (lv' := [(2, .int v1), (0, .int p0), (1, .int p1)]) hx hb dJ9_floorDiv_7cf53_3 rfl hl (by decide) rfl (fun ls hl => ?_)
  refine lv_iload_n hx hb dJ9_floorDiv_7cf53_4 rfl (lv_at hl 1 rfl) ?_
  refine lv_iload_n hx hb dJ9_floorDiv_7cf53_5 rfl (lv_at hl 2 rfl) ?_
  refine lv_ixor hx hb dJ9_floorDiv_7cf53_6 ?_
  refine lv_if_ge (tgt := 21) hx hb dJ9_floorDiv_7cf53_7 rfl (fun c7 => ?_) (fun c7 => ?_)
  · have h := br_p c7 h
    exact b21   v1 _ _ _ h hP hS (lv_sub hl [0] rfl)
  · have h := br_n c7 h
    refine lv_iload_n hx hb dJ9_floorDiv_7cf53_10 rfl (lv_at hl 0 rfl) ?_
    refine lv_iload_n hx hb dJ9_floorDiv_7cf53_11 rfl (lv_at hl 2 rfl) ?_
    refine lv_imul hx hb dJ9_floorDiv_7cf53_12 ?_
    refine lv_iload_n hx hb dJ9_floorDiv_7cf53_13 rfl (lv_at hl 1 rfl) ?_
    refine lv_icmp_eq (tgt := 21) hx hb dJ9_floorDiv_7cf53_14 rfl (fun c14 => ?_) (fun c14 => ?_)
    · have h := br_p c14 h
      exact b21   v1 _ _ _ h hP hS (lv_sub hl [0] rfl)
    · have h := br_n c14 h
      refine lv_iload_n hx hb dJ9_floorDiv_7cf53_17 rfl (lv_at hl 0 rfl) ?_
      refine lv_iconst (v := 1) hx hb dJ9_floorDiv_7cf53_18 rfl ?_
      refine lv_isub hx hb dJ9_floorDiv_7cf53_19 ?_
      exact ret h hP hS dJ9_floorDiv_7cf53_20
