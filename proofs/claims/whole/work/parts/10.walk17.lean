abbrev rm_X11_trace : Room := { frames := 3, cells := 0, slots := 0, locals := 67 }
set_option maxRecDepth 100000 in
set_option maxHeartbeats 4000000 in
theorem c_X11_trace {g : gT} {l : Launch} {A : Nat → Prop} {q : Nat → Nat} {m_thrown : Int32} {m_length : Int32} {m_at : Int32} {m_fault : Int32} {m_toldWords : Int32} {m_orders : Int32} {m_value : Int32} {m_hasUnit : Bool} {m_places : Int32} {m_clocks : Int32} {m_held : Bool} {m_x : Int64} {m_y : Int64} {m_z : Int64} {m_first : Int64} {m_second : Int64} {m_aside : Int32} {m_jobs : Int32} {m_jobsImage : Int32} {m_clocksImage : Int32} {m_heldImage : Bool} {m_hasImage : Bool} {m_tape : Nat → Int32} {m_read : Nat → Int32} {m_order : Nat → Int32} {m_width : Nat → Int32} {m_guard : Nat → Int32} {m_points : Nat → Int32} {m_stages : Nat → Int32} {m_gain : Nat → Int32} {m_undo : Nat → Int32} {m_near : Nat → Bool} {m_quarter : Nat → Int64} {m_ln : Nat → Int64} {m_angle : Nat → Int64} {m_shift : Nat → Int32} {m_digit : Nat → Int32} {m_refused : Nat → Int32} {m_job : Nat → Int32} {m_jobKept : Nat → Int32} {m_result : Nat → Int32} {m_resultKept : Nat → Int32} {m_trace : Nat → Int64} {m_traceKept : Nat → Int64} {m_jobImage : Nat → Int32} {m_resultImage : Nat → Int32} {m_traceImage : Nat → Int64} {p0 : Int32} {p1 : Int32} {p2 : Int32} {o : Int64 × Int32} (h : f_X11_trace p0 p1 p2 m_thrown m_hasUnit m_jobs m_job m_trace = some o) : Std g l yX11_trace (.code yX11_trace cX11_trace 4 (some .long) :: gw) rm_X11_trace A [.ref (q 0), .int p0, .int p1, .int p2] (wM g q m_thrown m_length m_at m_fault m_toldWords m_orders m_value m_hasUnit m_places m_clocks m_held m_x m_y m_z m_first m_second m_aside m_jobs m_jobsImage m_clocksImage m_heldImage m_hasImage m_tape m_read m_order m_width m_guard m_points m_stages m_gain m_undo m_near m_quarter m_ln m_angle m_shift m_digit m_refused m_job m_jobKept m_result m_resultKept m_trace m_traceKept m_jobImage m_resultImage m_traceImage) (wM g q o.2 m_length m_at m_fault m_toldWords m_orders m_value m_hasUnit m_places m_clocks m_held m_x m_y m_z m_first m_second m_aside m_jobs m_jobsImage m_clocksImage m_heldImage m_hasImage m_tape m_read m_order m_width m_guard m_points m_stages m_gain m_undo m_near m_quarter m_ln m_angle m_shift m_digit m_refused m_job m_jobKept m_result m_resultKept m_trace m_traceKept m_jobImage m_resultImage m_traceImage) (some (.long o.1)) := by
  refine std_l (own := RX11) (by decide +kernel) rfl (Nat.le_of_ble_eq_true rfl) ?_
  intro p e s m args below meth c Q X ret H locs hP hS ls hl
  have hx := X.1
  have hb := X.2.1
  have hl : lv_has ls 4 [(0, .ref (q 0)), (1, .int p0), (2, .int p1), (3, .int p2)] := hl
  have ret : ∀ {H : Heap} {locs : List Loc} {pc : Nat} {ls : Array Slot} {v : Int64} {m_thrown : Int32}, some (v, m_thrown) = some o → WP g A (wM g q m_thrown m_length m_at m_fault m_toldWords m_orders m_value m_hasUnit m_places m_clocks m_held m_x m_y m_z m_first m_second m_aside m_jobs m_jobsImage m_clocksImage m_heldImage m_hasImage m_tape m_read m_order m_width m_guard m_points m_stages m_gain m_undo m_near m_quarter m_ln m_angle m_shift m_digit m_refused m_job m_jobKept m_result m_resultKept m_trace m_traceKept m_jobImage m_resultImage m_traceImage) H → va_S A s.heap H locs → decode cX11_trace pc = .ok (.lreturn, 1) → W p l e rm_X11_trace s m args below meth c H locs 0 0 Q (F0 m pc ls [.long v]) := by
    intro H locs pc ls v m_thrown h hP hS hd
    cases h
    exact ret hP hS hd
  have b59 : ∀ (m_thrown : Int32) (H : Heap) (locs : List Loc) (ls : Array Slot), f_X11_trace_b59  m_hasUnit m_jobs m_job m_trace  m_thrown = some o → WP g A (wM g q m_thrown m_length m_at m_fault m_toldWords m_orders m_value m_hasUnit m_places m_clocks m_held m_x m_y m_z m_first m_second m_aside m_jobs m_jobsImage m_clocksImage m_heldImage m_hasImage m_tape m_read m_order m_width m_guard m_points m_stages m_gain m_undo m_near m_quarter m_ln m_angle m_shift m_digit m_refused m_job m_jobKept m_result m_resultKept m_trace m_traceKept m_jobImage m_resultImage m_traceImage) H → va_S A s.heap H locs → lv_has ls 4 [] → W p l e rm_X11_trace s m args below meth c H locs 0 0 Q (F0 m 59 ls []) := by
    intro  m_thrown H locs ls h hP hS hl
    unfold f_X11_trace_b59 at h
    refine lv_ldc2 (v := (-9223372036854775808)) hx hb X.2.2.2.1 (X.2.2.2.2.1 _ wd_7_28) dX11_trace_59 ?_
    exact ret h hP hS dX11_trace_62
  unfold f_X11_trace at h
  refine lv_aload_n hx hb dX11_trace_0 rfl (lv_at hl 0 rfl) ?_
  refine lv_iconst (v := 0) hx hb dX11_trace_1 rfl ?_
  refine pf_X11_5_M_0 (v0 := (0 : Int32)) X hP hS dX11_trace_2 (fun H locs hP hS => ?_)
  refine lv_aload_n hx hb dX11_trace_5 rfl (lv_at hl 0 rfl) ?_
  refine lv_iload_n hx hb dX11_trace_6 rfl (lv_at hl 1 rfl) ?_
  obtain ⟨o1, hco1, h⟩ := bd_of h
  refine kV (rest := []) X dX11_trace_7 wd_7_156 mw_X11_hasBegun wd_7_158 wp_9_14 hP (k0 := 0) rfl rfl rfl hS (fun _ z => z) (c_X11_hasBegun hco1) rfl hl.1 rfl (Nat.le_of_ble_eq_true rfl) rfl rfl ⟨Nat.le_of_ble_eq_true rfl, Nat.le_of_ble_eq_true rfl⟩ (fun H locs hP _ _ hS => ?_)
  refine W.eq (g2 := F0 m 10 ls [.int (bI o1)]) rfl ?_
  refine rb_eq (tgt := 59) hx hb dX11_trace_10 rfl (fun c10 => ?_) (fun c10 => ?_)
  · have h := br_n c10 h
    exact b59   (0 : Int32) _ _ _ h hP hS (lv_sub hl [] rfl)
  · have h := br_p c10 h
    refine lv_iload_n hx hb dX11_trace_13 rfl (lv_at hl 2 rfl) ?_
    refine lv_i2l hx hb dX11_trace_14 rfl ?_
    refine lv_lconst (v := 0) hx hb dX11_trace_15 rfl ?_
    refine lv_aload_n hx hb dX11_trace_16 rfl (lv_at hl 0 rfl) ?_
    refine lv_iload_n hx hb dX11_trace_17 rfl (lv_at hl 1 rfl) ?_
    refine lv_iconst (v := 5) hx hb dX11_trace_18 rfl ?_
    obtain ⟨o2, hco2, h⟩ := bd_of h
    refine kV (rest := [.long (0 : Int64), .long p1.toInt64]) X dX11_trace_19 wd_7_78 mw_X11_of wd_7_80 wp_9_3 hP (k0 := 0) rfl rfl rfl hS (fun _ z => z) (c_X11_of hco2) rfl hl.1 rfl (Nat.le_of_ble_eq_true rfl) rfl rfl ⟨Nat.le_of_ble_eq_true rfl, Nat.le_of_ble_eq_true rfl⟩ (fun H locs hP _ _ hS => ?_)
    refine W.eq (g2 := F0 m 22 ls [.int o2, .long (0 : Int64), .long p1.toInt64]) rfl ?_
    refine lv_i2l hx hb dX11_trace_22 rfl ?_
    obtain ⟨o3, hco3, h⟩ := bd_of h
    refine kS (rest := []) X dX11_trace_23 wd_5_153 mw_X11_isIn wd_5_154 hP hS (fun _ z => z) (c_X11_isIn hco3) rfl hl.1 rfl (Nat.le_of_ble_eq_true rfl) rfl rfl ⟨Nat.le_of_ble_eq_true rfl, Nat.le_of_ble_eq_true rfl⟩ (fun H locs hP _ _ hS => ?_)
    refine W.eq (g2 := F0 m 26 ls [.int (bI o3)]) rfl ?_
    refine rb_eq (tgt := 59) hx hb dX11_trace_26 rfl (fun c26 => ?_) (fun c26 => ?_)
    · have h := br_n c26 h
      exact b59   (0 : Int32) _ _ _ h hP hS (lv_sub hl [] rfl)
    · have h := br_p c26 h
      refine lv_iload_n hx hb dX11_trace_29 rfl (lv_at hl 3 rfl) ?_
      refine lv_i2l hx hb dX11_trace_30 rfl ?_
      refine lv_lconst (v := 0) hx hb dX11_trace_31 rfl ?_
      refine lv_ldc2 (v := 2) hx hb X.2.2.2.1 (X.2.2.2.2.1 _ wd_5_201) dX11_trace_32 ?_
      obtain ⟨o4, hco4, h⟩ := bd_of h
      refine kS (rest := []) X dX11_trace_35 wd_5_153 mw_X11_isIn wd_5_154 hP hS (fun _ z => z) (c_X11_isIn hco4) rfl hl.1 rfl (Nat.le_of_ble_eq_true rfl) rfl rfl ⟨Nat.le_of_ble_eq_true rfl, Nat.le_of_ble_eq_true rfl⟩ (fun H locs hP _ _ hS => ?_)
      refine W.eq (g2 := F0 m 38 ls [.int (bI o4)]) rfl ?_
      refine rb_eq (tgt := 59) hx hb dX11_trace_38 rfl (fun c38 => ?_) (fun c38 => ?_)
      · have h := br_n c38 h
        exact b59   (0 : Int32) _ _ _ h hP hS (lv_sub hl [] rfl)
      · have h := br_p c38 h
        refine lv_aload_n hx hb dX11_trace_41 rfl (lv_at hl 0 rfl) ?_
        refine gf_X11_238_M_0 X hP dX11_trace_42 ?_
        refine lv_bipush (v := 75) hx hb dX11_trace_45 rfl ?_
        refine lv_iload_n hx hb dX11_trace_47 rfl (lv_at hl 1 rfl) ?_
        refine lv_imul hx hb dX11_trace_48 ?_
        refine lv_iconst (v := 3) hx hb dX11_trace_49 rfl ?_
        refine lv_iload_n hx hb dX11_trace_50 rfl (lv_at hl 2 rfl) ?_
        refine lv_imul hx hb dX11_trace_51 ?_
        refine lv_iadd hx hb dX11_trace_52 ?_
        refine lv_iload_n hx hb dX11_trace_53 rfl (lv_at hl 3 rfl) ?_
        refine lv_iadd hx hb dX11_trace_54 ?_
        obtain ⟨hi55, h⟩ := gv_of h
        refine al_M_21 X hP hi55 dX11_trace_55 ?_
        refine lv_goto (tgt := 62) hx hb dX11_trace_56 rfl ?_
        exact ret h hP hS dX11_trace_62
abbrev rm_X11_signs : Room := { frames := 3, cells := 0, slots := 0, locals := 67 }
set_option maxRecDepth 100000 in
set_option maxHeartbeats 4000000 in
theorem c_X11_signs {g : gT} {l : Launch} {A : Nat → Prop} {q : Nat → Nat} {m_thrown : Int32} {m_length : Int32} {m_at : Int32} {m_fault : Int32} {m_toldWords : Int32} {m_orders : Int32} {m_value : Int32} {m_hasUnit : Bool} {m_places : Int32} {m_clocks : Int32} {m_held : Bool} {m_x : Int64} {m_y : Int64} {m_z : Int64} {m_first : Int64} {m_second : Int64} {m_aside : Int32} {m_jobs : Int32} {m_jobsImage : Int32} {m_clocksImage : Int32} {m_heldImage : Bool} {m_hasImage : Bool} {m_tape : Nat → Int32} {m_read : Nat → Int32} {m_order : Nat → Int32} {m_width : Nat → Int32} {m_guard : Nat → Int32} {m_points : Nat → Int32} {m_stages : Nat → Int32} {m_gain : Nat → Int32} {m_undo : Nat → Int32} {m_near : Nat → Bool} {m_quarter : Nat → Int64} {m_ln : Nat → Int64} {m_angle : Nat → Int64} {m_shift : Nat → Int32} {m_digit : Nat → Int32} {m_refused : Nat → Int32} {m_job : Nat → Int32} {m_jobKept : Nat → Int32} {m_result : Nat → Int32} {m_resultKept : Nat → Int32} {m_trace : Nat → Int64} {m_traceKept : Nat → Int64} {m_jobImage : Nat → Int32} {m_resultImage : Nat → Int32} {m_traceImage : Nat → Int64} {p0 : Int32} {o : Int32 × Int32} (h : f_X11_signs p0 m_thrown m_hasUnit m_jobs m_job = some o) : Std g l yX11_signs (.code yX11_signs cX11_signs 2 (some .int) :: gw) rm_X11_signs A [.ref (q 0), .int p0] (wM g q m_thrown m_length m_at m_fault m_toldWords m_orders m_value m_hasUnit m_places m_clocks m_held m_x m_y m_z m_first m_second m_aside m_jobs m_jobsImage m_clocksImage m_heldImage m_hasImage m_tape m_read m_order m_width m_guard m_points m_stages m_gain m_undo m_near m_quarter m_ln m_angle m_shift m_digit m_refused m_job m_jobKept m_result m_resultKept m_trace m_traceKept m_jobImage m_resultImage m_traceImage) (wM g q o.2 m_length m_at m_fault m_toldWords m_orders m_value m_hasUnit m_places m_clocks m_held m_x m_y m_z m_first m_second m_aside m_jobs m_jobsImage m_clocksImage m_heldImage m_hasImage m_tape m_read m_order m_width m_guard m_points m_stages m_gain m_undo m_near m_quarter m_ln m_angle m_shift m_digit m_refused m_job m_jobKept m_result m_resultKept m_trace m_traceKept m_jobImage m_resultImage m_traceImage) (some (.int o.1)) := by
  refine std_i (own := RX11) (by decide +kernel) rfl (Nat.le_of_ble_eq_true rfl) ?_
  intro p e s m args below meth c Q X ret H locs hP hS ls hl
  have hx := X.1
  have hb := X.2.1
  have hl : lv_has ls 2 [(0, .ref (q 0)), (1, .int p0)] := hl
  have ret : ∀ {H : Heap} {locs : List Loc} {pc : Nat} {ls : Array Slot} {v : Int32} {m_thrown : Int32}, some (v, m_thrown) = some o → WP g A (wM g q m_thrown m_length m_at m_fault m_toldWords m_orders m_value m_hasUnit m_places m_clocks m_held m_x m_y m_z m_first m_second m_aside m_jobs m_jobsImage m_clocksImage m_heldImage m_hasImage m_tape m_read m_order m_width m_guard m_points m_stages m_gain m_undo m_near m_quarter m_ln m_angle m_shift m_digit m_refused m_job m_jobKept m_result m_resultKept m_trace m_traceKept m_jobImage m_resultImage m_traceImage) H → va_S A s.heap H locs → decode cX11_signs pc = .ok (.ireturn, 1) → W p l e rm_X11_signs s m args below meth c H locs 0 0 Q (F0 m pc ls [.int v]) := by
    intro H locs pc ls v m_thrown h hP hS hd
    cases h
    exact ret hP hS hd
  unfold f_X11_signs at h
  refine lv_aload_n hx hb dX11_signs_0 rfl (lv_at hl 0 rfl) ?_
  refine lv_iconst (v := 0) hx hb dX11_signs_1 rfl ?_
  refine pf_X11_5_M_0 (v0 := (0 : Int32)) X hP hS dX11_signs_2 (fun H locs hP hS => ?_)
  refine lv_aload_n hx hb dX11_signs_5 rfl (lv_at hl 0 rfl) ?_
  refine lv_iload_n hx hb dX11_signs_6 rfl (lv_at hl 1 rfl) ?_
  obtain ⟨o1, hco1, h⟩ := bd_of h
  refine kV (rest := []) X dX11_signs_7 wd_7_156 mw_X11_hasBegun wd_7_158 wp_9_14 hP (k0 := 0) rfl rfl rfl hS (fun _ z => z) (c_X11_hasBegun hco1) rfl hl.1 rfl (Nat.le_of_ble_eq_true rfl) rfl rfl ⟨Nat.le_of_ble_eq_true rfl, Nat.le_of_ble_eq_true rfl⟩ (fun H locs hP _ _ hS => ?_)
  refine W.eq (g2 := F0 m 10 ls [.int (bI o1)]) rfl ?_
  refine rb_eq (tgt := 23) hx hb dX11_signs_10 rfl (fun c10 => ?_) (fun c10 => ?_)
  · have h := br_n c10 h
    refine lv_iconst (v := (-1)) hx hb dX11_signs_23 rfl ?_
    exact ret h hP hS dX11_signs_24
  · have h := br_p c10 h
    refine lv_aload_n hx hb dX11_signs_13 rfl (lv_at hl 0 rfl) ?_
    refine lv_iload_n hx hb dX11_signs_14 rfl (lv_at hl 1 rfl) ?_
    refine lv_bipush (v := 9) hx hb dX11_signs_15 rfl ?_
    obtain ⟨o2, hco2, h⟩ := bd_of h
    refine kV (rest := []) X dX11_signs_17 wd_7_78 mw_X11_of wd_7_80 wp_9_3 hP (k0 := 0) rfl rfl rfl hS (fun _ z => z) (c_X11_of hco2) rfl hl.1 rfl (Nat.le_of_ble_eq_true rfl) rfl rfl ⟨Nat.le_of_ble_eq_true rfl, Nat.le_of_ble_eq_true rfl⟩ (fun H locs hP _ _ hS => ?_)
    refine W.eq (g2 := F0 m 20 ls [.int o2]) rfl ?_
    refine lv_goto (tgt := 24) hx hb dX11_signs_20 rfl ?_
    exact ret h hP hS dX11_signs_24
abbrev rm_X11_register : Room := { frames := 1, cells := 0, slots := 0, locals := 25 }
set_option maxRecDepth 100000 in
set_option maxHeartbeats 4000000 in
theorem c_X11_register {g : gT} {l : Launch} {A : Nat → Prop} {q : Nat → Nat} {m_thrown : Int32} {m_length : Int32} {m_at : Int32} {m_fault : Int32} {m_toldWords : Int32} {m_orders : Int32} {m_value : Int32} {m_hasUnit : Bool} {m_places : Int32} {m_clocks : Int32} {m_held : Bool} {m_x : Int64} {m_y : Int64} {m_z : Int64} {m_first : Int64} {m_second : Int64} {m_aside : Int32} {m_jobs : Int32} {m_jobsImage : Int32} {m_clocksImage : Int32} {m_heldImage : Bool} {m_hasImage : Bool} {m_tape : Nat → Int32} {m_read : Nat → Int32} {m_order : Nat → Int32} {m_width : Nat → Int32} {m_guard : Nat → Int32} {m_points : Nat → Int32} {m_stages : Nat → Int32} {m_gain : Nat → Int32} {m_undo : Nat → Int32} {m_near : Nat → Bool} {m_quarter : Nat → Int64} {m_ln : Nat → Int64} {m_angle : Nat → Int64} {m_shift : Nat → Int32} {m_digit : Nat → Int32} {m_refused : Nat → Int32} {m_job : Nat → Int32} {m_jobKept : Nat → Int32} {m_result : Nat → Int32} {m_resultKept : Nat → Int32} {m_trace : Nat → Int64} {m_traceKept : Nat → Int64} {m_jobImage : Nat → Int32} {m_resultImage : Nat → Int32} {m_traceImage : Nat → Int64} {p0 : Int32} {o : Int32 × Int32} (h : f_X11_register p0 m_thrown m_hasUnit m_jobs m_stages m_job = some o) : Std g l yX11_register (.code yX11_register cX11_register 3 (some .int) :: gw) rm_X11_register A [.ref (q 0), .int p0] (wM g q m_thrown m_length m_at m_fault m_toldWords m_orders m_value m_hasUnit m_places m_clocks m_held m_x m_y m_z m_first m_second m_aside m_jobs m_jobsImage m_clocksImage m_heldImage m_hasImage m_tape m_read m_order m_width m_guard m_points m_stages m_gain m_undo m_near m_quarter m_ln m_angle m_shift m_digit m_refused m_job m_jobKept m_result m_resultKept m_trace m_traceKept m_jobImage m_resultImage m_traceImage) (wM g q o.2 m_length m_at m_fault m_toldWords m_orders m_value m_hasUnit m_places m_clocks m_held m_x m_y m_z m_first m_second m_aside m_jobs m_jobsImage m_clocksImage m_heldImage m_hasImage m_tape m_read m_order m_width m_guard m_points m_stages m_gain m_undo m_near m_quarter m_ln m_angle m_shift m_digit m_refused m_job m_jobKept m_result m_resultKept m_trace m_traceKept m_jobImage m_resultImage m_traceImage) (some (.int o.1)) := by
  refine std_i (own := RX11) (by decide +kernel) rfl (Nat.le_of_ble_eq_true rfl) ?_
  intro p e s m args below meth c Q X ret H locs hP hS ls hl
  have hx := X.1
  have hb := X.2.1
  have hl : lv_has ls 3 [(0, .ref (q 0)), (1, .int p0)] := hl
  have ret : ∀ {H : Heap} {locs : List Loc} {pc : Nat} {ls : Array Slot} {v : Int32} {m_thrown : Int32}, some (v, m_thrown) = some o → WP g A (wM g q m_thrown m_length m_at m_fault m_toldWords m_orders m_value m_hasUnit m_places m_clocks m_held m_x m_y m_z m_first m_second m_aside m_jobs m_jobsImage m_clocksImage m_heldImage m_hasImage m_tape m_read m_order m_width m_guard m_points m_stages m_gain m_undo m_near m_quarter m_ln m_angle m_shift m_digit m_refused m_job m_jobKept m_result m_resultKept m_trace m_traceKept m_jobImage m_resultImage m_traceImage) H → va_S A s.heap H locs → decode cX11_register pc = .ok (.ireturn, 1) → W p l e rm_X11_register s m args below meth c H locs 0 0 Q (F0 m pc ls [.int v]) := by
    intro H locs pc ls v m_thrown h hP hS hd
    cases h
    exact ret hP hS hd
  have b28 : ∀ (m_thrown : Int32) (H : Heap) (locs : List Loc) (ls : Array Slot), f_X11_register_b28  m_hasUnit m_jobs m_stages m_job  m_thrown = some o → WP g A (wM g q m_thrown m_length m_at m_fault m_toldWords m_orders m_value m_hasUnit m_places m_clocks m_held m_x m_y m_z m_first m_second m_aside m_jobs m_jobsImage m_clocksImage m_heldImage m_hasImage m_tape m_read m_order m_width m_guard m_points m_stages m_gain m_undo m_near m_quarter m_ln m_angle m_shift m_digit m_refused m_job m_jobKept m_result m_resultKept m_trace m_traceKept m_jobImage m_resultImage m_traceImage) H → va_S A s.heap H locs → lv_has ls 3 [] → W p l e rm_X11_register s m args below meth c H locs 0 0 Q (F0 m 28 ls []) := by
    intro  m_thrown H locs ls h hP hS hl
    unfold f_X11_register_b28 at h
    refine lv_iconst (v := (-1)) hx hb dX11_register_28 rfl ?_
    exact ret h hP hS dX11_register_29
  have b62 : ∀ (k32 : Int32 → Int32 → Int32 → Option (Int32 × Int32)) (hk32 : ∀ (x1 : Int32) (x2 : Int32) (m_thrown : Int32) (H : Heap) (locs : List Loc) (ls : Array Slot), k32 x1 x2 m_thrown = some o → WP g A (wM g q m_thrown m_length m_at m_fault m_toldWords m_orders m_value m_hasUnit m_places m_clocks m_held m_x m_y m_z m_first m_second m_aside m_jobs m_jobsImage m_clocksImage m_heldImage m_hasImage m_tape m_read m_order m_width m_guard m_points m_stages m_gain m_undo m_near m_quarter m_ln m_angle m_shift m_digit m_refused m_job m_jobKept m_result m_resultKept m_trace m_traceKept m_jobImage m_resultImage m_traceImage) H → va_S A s.heap H locs → lv_has ls 3 [(0, .ref (q 0)), (1, .int x1), (2, .int x2)] → W p l e rm_X11_register s m args below meth c H locs 0 0 Q (F0 m 32 ls [])) , ∀ (x1 : Int32) (x2 : Int32) (m_thrown : Int32) (H : Heap) (locs : List Loc) (ls : Array Slot), f_X11_register_b62  m_hasUnit m_jobs m_stages m_job k32 x1 x2 m_thrown = some o → WP g A (wM g q m_thrown m_length m_at m_fault m_toldWords m_orders m_value m_hasUnit m_places m_clocks m_held m_x m_y m_z m_first m_second m_aside m_jobs m_jobsImage m_clocksImage m_heldImage m_hasImage m_tape m_read m_order m_width m_guard m_points m_stages m_gain m_undo m_near m_quarter m_ln m_angle m_shift m_digit m_refused m_job m_jobKept m_result m_resultKept m_trace m_traceKept m_jobImage m_resultImage m_traceImage) H → va_S A s.heap H locs → lv_has ls 3 [(0, .ref (q 0)), (1, .int x1), (2, .int x2)] → W p l e rm_X11_register s m args below meth c H locs 0 0 Q (F0 m 62 ls []) := by
    intro k32 hk32 x1 x2 m_thrown H locs ls h hP hS hl
    unfold f_X11_register_b62 at h
    obtain ⟨v3, ev3⟩ : ∃ z : Int32, z = (x2 + 1) := ⟨_, rfl⟩
    have h := lt_at ev3 h
    refine lv_iinc (v := v3) (lv' := [(2, .int v3), (0, .ref (q 0)), (1, .int x1)]) hx hb dX11_register_62 hl (k := 2) rfl (by rw [ev3]; rfl) (by decide) rfl (fun ls hl => ?_)
    refine lv_goto (tgt := 32) hx hb dX11_register_65 rfl ?_
    exact hk32 x1 v3 m_thrown _ _ _ h hP hS (lv_sub hl [1, 2, 0] rfl)
  have l32 : ∀ (n : Nat), ∀ (x1 : Int32) (x2 : Int32) (m_thrown : Int32) (H : Heap) (locs : List Loc) (ls : Array Slot), f_X11_register_l32  m_hasUnit m_jobs m_stages m_job  n x1 x2 m_thrown = some o → WP g A (wM g q m_thrown m_length m_at m_fault m_toldWords m_orders m_value m_hasUnit m_places m_clocks m_held m_x m_y m_z m_first m_second m_aside m_jobs m_jobsImage m_clocksImage m_heldImage m_hasImage m_tape m_read m_order m_width m_guard m_points m_stages m_gain m_undo m_near m_quarter m_ln m_angle m_shift m_digit m_refused m_job m_jobKept m_result m_resultKept m_trace m_traceKept m_jobImage m_resultImage m_traceImage) H → va_S A s.heap H locs → lv_has ls 3 [(0, .ref (q 0)), (1, .int x1), (2, .int x2)] → W p l e rm_X11_register s m args below meth c H locs 0 0 Q (F0 m 32 ls []) := by
    intro  n
    induction n with
    | zero =>
      intro x1 x2 m_thrown H locs ls h
      exact nz_of h
    | succ n ih =>
      intro x1 x2 m_thrown H locs ls h hP hS hl
      rw [f_X11_register_l32] at h
      refine lv_iload_n hx hb dX11_register_32 rfl (lv_at hl 2 rfl) ?_
      refine lv_aload_n hx hb dX11_register_33 rfl (lv_at hl 0 rfl) ?_
      refine gf_X11_273_M_0 X hP dX11_register_34 ?_
      refine lv_icmp_ge (tgt := 68) hx hb dX11_register_37 rfl (fun c37 => ?_) (fun c37 => ?_)
      · have h := br_p c37 h
        refine lv_iconst (v := (-1)) hx hb dX11_register_68 rfl ?_
        exact ret h hP hS dX11_register_69
      · have h := br_n c37 h
        refine lv_aload_n hx hb dX11_register_40 rfl (lv_at hl 0 rfl) ?_
        refine lv_iload_n hx hb dX11_register_41 rfl (lv_at hl 2 rfl) ?_
        refine lv_iconst (v := 4) hx hb dX11_register_42 rfl ?_
        obtain ⟨o2, hco2, h⟩ := bd_of h
        refine kV (rest := []) X dX11_register_43 wd_7_78 mw_X11_of wd_7_80 wp_9_3 hP (k0 := 0) rfl rfl rfl hS (fun _ z => z) (c_X11_of hco2) rfl hl.1 rfl (Nat.le_of_ble_eq_true rfl) rfl rfl ⟨Nat.le_of_ble_eq_true rfl, Nat.le_of_ble_eq_true rfl⟩ (fun H locs hP _ _ hS => ?_)
        refine W.eq (g2 := F0 m 46 ls [.int o2]) rfl ?_
        refine lv_iconst (v := 1) hx hb dX11_register_46 rfl ?_
        refine lv_icmp_ne (tgt := 62) hx hb dX11_register_47 rfl (fun c47 => ?_) (fun c47 => ?_)
        · have h := br_n c47 h
          exact b62 (f_X11_register_l32  m_hasUnit m_jobs m_stages m_job  n) ih  x1 x2 m_thrown _ _ _ h hP hS (lv_sub hl [0, 1, 2] rfl)
        · have h := br_p c47 h
          refine lv_aload_n hx hb dX11_register_50 rfl (lv_at hl 0 rfl) ?_
          refine lv_iload_n hx hb dX11_register_51 rfl (lv_at hl 2 rfl) ?_
          refine lv_iconst (v := 5) hx hb dX11_register_52 rfl ?_
          obtain ⟨o4, hco4, h⟩ := bd_of h
          refine kV (rest := []) X dX11_register_53 wd_7_78 mw_X11_of wd_7_80 wp_9_3 hP (k0 := 0) rfl rfl rfl hS (fun _ z => z) (c_X11_of hco4) rfl hl.1 rfl (Nat.le_of_ble_eq_true rfl) rfl rfl ⟨Nat.le_of_ble_eq_true rfl, Nat.le_of_ble_eq_true rfl⟩ (fun H locs hP _ _ hS => ?_)
          refine W.eq (g2 := F0 m 56 ls [.int o4]) rfl ?_
          refine lv_iload_n hx hb dX11_register_56 rfl (lv_at hl 1 rfl) ?_
          refine lv_icmp_ne (tgt := 62) hx hb dX11_register_57 rfl (fun c57 => ?_) (fun c57 => ?_)
          · have h := br_n c57 h
            exact b62 (f_X11_register_l32  m_hasUnit m_jobs m_stages m_job  n) ih  x1 x2 m_thrown _ _ _ h hP hS (lv_sub hl [0, 1, 2] rfl)
          · have h := br_p c57 h
            refine lv_iload_n hx hb dX11_register_60 rfl (lv_at hl 2 rfl) ?_
            exact ret h hP hS dX11_register_61
  unfold f_X11_register at h
  refine lv_aload_n hx hb dX11_register_0 rfl (lv_at hl 0 rfl) ?_
  refine lv_iconst (v := 0) hx hb dX11_register_1 rfl ?_
  refine pf_X11_5_M_0 (v0 := (0 : Int32)) X hP hS dX11_register_2 (fun H locs hP hS => ?_)
  refine lv_aload_n hx hb dX11_register_5 rfl (lv_at hl 0 rfl) ?_
  refine gf_X11_260_M_0 X hP dX11_register_6 ?_
  refine rb_eq (tgt := 28) hx hb dX11_register_9 rfl (fun c9 => ?_) (fun c9 => ?_)
  · have h := br_n c9 h
    exact b28   (0 : Int32) _ _ _ h hP hS (lv_sub hl [] rfl)
  · have h := br_p c9 h
    refine lv_iload_n hx hb dX11_register_12 rfl (lv_at hl 1 rfl) ?_
    refine lv_i2l hx hb dX11_register_13 rfl ?_
    refine lv_lconst (v := 0) hx hb dX11_register_14 rfl ?_
    refine lv_aload_n hx hb dX11_register_15 rfl (lv_at hl 0 rfl) ?_
    refine gf_X11_171_M_0 X hP dX11_register_16 ?_
    refine lv_iconst (v := 0) hx hb dX11_register_19 rfl ?_
    obtain ⟨hi20, h⟩ := gv_of h
    refine al_M_7 X hP hi20 dX11_register_20 ?_
    refine lv_i2l hx hb dX11_register_21 rfl ?_
    obtain ⟨o1, hco1, h⟩ := bd_of h
    refine kS (rest := []) X dX11_register_22 wd_5_153 mw_X11_isIn wd_5_154 hP hS (fun _ z => z) (c_X11_isIn hco1) rfl hl.1 rfl (Nat.le_of_ble_eq_true rfl) rfl rfl ⟨Nat.le_of_ble_eq_true rfl, Nat.le_of_ble_eq_true rfl⟩ (fun H locs hP _ _ hS => ?_)
    refine W.eq (g2 := F0 m 25 ls [.int (bI o1)]) rfl ?_
    refine rb_ne (tgt := 30) hx hb dX11_register_25 rfl (fun c25 => ?_) (fun c25 => ?_)
    · have h := br_p c25 h
      refine lv_iconst (v := 0) hx hb dX11_register_30 rfl ?_
      refine lv_istore_n (lv' := [(2, .int 0), (0, .ref (q 0)), (1, .int p0)]) hx hb dX11_register_31 rfl hl (by decide) rfl (fun ls hl => ?_)
      exact l32  FU p0 (0 : Int32) (0 : Int32) _ _ _ h hP hS (lv_sub hl [1, 2, 0] rfl)
    · have h := br_n c25 h
      exact b28   (0 : Int32) _ _ _ h hP hS (lv_sub hl [] rfl)
abbrev rm_X11_place : Room := { frames := 2, cells := 0, slots := 0, locals := 44 }
set_option maxRecDepth 100000 in
set_option maxHeartbeats 4000000 in
theorem c_X11_place {g : gT} {l : Launch} {A : Nat → Prop} {q : Nat → Nat} {m_thrown : Int32} {m_length : Int32} {m_at : Int32} {m_fault : Int32} {m_toldWords : Int32} {m_orders : Int32} {m_value : Int32} {m_hasUnit : Bool} {m_places : Int32} {m_clocks : Int32} {m_held : Bool} {m_x : Int64} {m_y : Int64} {m_z : Int64} {m_first : Int64} {m_second : Int64} {m_aside : Int32} {m_jobs : Int32} {m_jobsImage : Int32} {m_clocksImage : Int32} {m_heldImage : Bool} {m_hasImage : Bool} {m_tape : Nat → Int32} {m_read : Nat → Int32} {m_order : Nat → Int32} {m_width : Nat → Int32} {m_guard : Nat → Int32} {m_points : Nat → Int32} {m_stages : Nat → Int32} {m_gain : Nat → Int32} {m_undo : Nat → Int32} {m_near : Nat → Bool} {m_quarter : Nat → Int64} {m_ln : Nat → Int64} {m_angle : Nat → Int64} {m_shift : Nat → Int32} {m_digit : Nat → Int32} {m_refused : Nat → Int32} {m_job : Nat → Int32} {m_jobKept : Nat → Int32} {m_result : Nat → Int32} {m_resultKept : Nat → Int32} {m_trace : Nat → Int64} {m_traceKept : Nat → Int64} {m_jobImage : Nat → Int32} {m_resultImage : Nat → Int32} {m_traceImage : Nat → Int64} {p0 : Int32} {o : Int32 × Int32} (h : f_X11_place p0 m_thrown m_hasUnit m_places m_jobs m_stages m_job = some o) : Std g l yX11_place (.code yX11_place cX11_place 2 (some .int) :: gw) rm_X11_place A [.ref (q 0), .int p0] (wM g q m_thrown m_length m_at m_fault m_toldWords m_orders m_value m_hasUnit m_places m_clocks m_held m_x m_y m_z m_first m_second m_aside m_jobs m_jobsImage m_clocksImage m_heldImage m_hasImage m_tape m_read m_order m_width m_guard m_points m_stages m_gain m_undo m_near m_quarter m_ln m_angle m_shift m_digit m_refused m_job m_jobKept m_result m_resultKept m_trace m_traceKept m_jobImage m_resultImage m_traceImage) (wM g q o.2 m_length m_at m_fault m_toldWords m_orders m_value m_hasUnit m_places m_clocks m_held m_x m_y m_z m_first m_second m_aside m_jobs m_jobsImage m_clocksImage m_heldImage m_hasImage m_tape m_read m_order m_width m_guard m_points m_stages m_gain m_undo m_near m_quarter m_ln m_angle m_shift m_digit m_refused m_job m_jobKept m_result m_resultKept m_trace m_traceKept m_jobImage m_resultImage m_traceImage) (some (.int o.1)) := by
  refine std_i (own := RX11) (by decide +kernel) rfl (Nat.le_of_ble_eq_true rfl) ?_
  intro p e s m args below meth c Q X ret H locs hP hS ls hl
  have hx := X.1
  have hb := X.2.1
  have hl : lv_has ls 2 [(0, .ref (q 0)), (1, .int p0)] := hl
  have ret : ∀ {H : Heap} {locs : List Loc} {pc : Nat} {ls : Array Slot} {v : Int32} {m_thrown : Int32}, some (v, m_thrown) = some o → WP g A (wM g q m_thrown m_length m_at m_fault m_toldWords m_orders m_value m_hasUnit m_places m_clocks m_held m_x m_y m_z m_first m_second m_aside m_jobs m_jobsImage m_clocksImage m_heldImage m_hasImage m_tape m_read m_order m_width m_guard m_points m_stages m_gain m_undo m_near m_quarter m_ln m_angle m_shift m_digit m_refused m_job m_jobKept m_result m_resultKept m_trace m_traceKept m_jobImage m_resultImage m_traceImage) H → va_S A s.heap H locs → decode cX11_place pc = .ok (.ireturn, 1) → W p l e rm_X11_place s m args below meth c H locs 0 0 Q (F0 m pc ls [.int v]) := by
    intro H locs pc ls v m_thrown h hP hS hd
    cases h
    exact ret hP hS hd
  have b36 : ∀ (m_thrown : Int32) (H : Heap) (locs : List Loc) (ls : Array Slot), f_X11_place_b36  m_hasUnit m_places m_jobs m_stages m_job  m_thrown = some o → WP g A (wM g q m_thrown m_length m_at m_fault m_toldWords m_orders m_value m_hasUnit m_places m_clocks m_held m_x m_y m_z m_first m_second m_aside m_jobs m_jobsImage m_clocksImage m_heldImage m_hasImage m_tape m_read m_order m_width m_guard m_points m_stages m_gain m_undo m_near m_quarter m_ln m_angle m_shift m_digit m_refused m_job m_jobKept m_result m_resultKept m_trace m_traceKept m_jobImage m_resultImage m_traceImage) H → va_S A s.heap H locs → lv_has ls 2 [] → W p l e rm_X11_place s m args below meth c H locs 0 0 Q (F0 m 36 ls []) := by
    intro  m_thrown H locs ls h hP hS hl
    unfold f_X11_place_b36 at h
    refine lv_iconst (v := (-1)) hx hb dX11_place_36 rfl ?_
    exact ret h hP hS dX11_place_37
  unfold f_X11_place at h
  refine lv_aload_n hx hb dX11_place_0 rfl (lv_at hl 0 rfl) ?_
  refine lv_iconst (v := 0) hx hb dX11_place_1 rfl ?_
  refine pf_X11_5_M_0 (v0 := (0 : Int32)) X hP hS dX11_place_2 (fun H locs hP hS => ?_)
  refine lv_aload_n hx hb dX11_place_5 rfl (lv_at hl 0 rfl) ?_
  refine gf_X11_260_M_0 X hP dX11_place_6 ?_
  refine rb_eq (tgt := 36) hx hb dX11_place_9 rfl (fun c9 => ?_) (fun c9 => ?_)
  · have h := br_n c9 h
    exact b36   (0 : Int32) _ _ _ h hP hS (lv_sub hl [] rfl)
  · have h := br_p c9 h
    refine lv_iload_n hx hb dX11_place_12 rfl (lv_at hl 1 rfl) ?_
    refine lv_i2l hx hb dX11_place_13 rfl ?_
    refine lv_lconst (v := 0) hx hb dX11_place_14 rfl ?_
    refine lv_aload_n hx hb dX11_place_15 rfl (lv_at hl 0 rfl) ?_
    refine gf_X11_264_M_0 X hP dX11_place_16 ?_
    refine lv_iconst (v := 1) hx hb dX11_place_19 rfl ?_
    refine lv_isub hx hb dX11_place_20 ?_
    refine lv_i2l hx hb dX11_place_21 rfl ?_
    obtain ⟨o1, hco1, h⟩ := bd_of h
    refine kS (rest := []) X dX11_place_22 wd_5_153 mw_X11_isIn wd_5_154 hP hS (fun _ z => z) (c_X11_isIn hco1) rfl hl.1 rfl (Nat.le_of_ble_eq_true rfl) rfl rfl ⟨Nat.le_of_ble_eq_true rfl, Nat.le_of_ble_eq_true rfl⟩ (fun H locs hP _ _ hS => ?_)
    refine W.eq (g2 := F0 m 25 ls [.int (bI o1)]) rfl ?_
    refine rb_eq (tgt := 36) hx hb dX11_place_25 rfl (fun c25 => ?_) (fun c25 => ?_)
    · have h := br_n c25 h
      exact b36   (0 : Int32) _ _ _ h hP hS (lv_sub hl [] rfl)
    · have h := br_p c25 h
      refine lv_aload_n hx hb dX11_place_28 rfl (lv_at hl 0 rfl) ?_
      refine lv_iload_n hx hb dX11_place_29 rfl (lv_at hl 1 rfl) ?_
      obtain ⟨o2, hco2, h⟩ := bd_of h
      refine kV (rest := []) X dX11_place_30 wd_7_119 mw_X11_standsIn wd_7_121 wp_9_10 hP (k0 := 0) rfl rfl rfl hS (fun _ z => z) (c_X11_standsIn hco2) rfl hl.1 rfl (Nat.le_of_ble_eq_true rfl) rfl rfl ⟨Nat.le_of_ble_eq_true rfl, Nat.le_of_ble_eq_true rfl⟩ (fun H locs hP _ _ hS => ?_)
      refine W.eq (g2 := F0 m 33 ls [.int o2]) rfl ?_
      refine lv_goto (tgt := 37) hx hb dX11_place_33 rfl ?_
      exact ret h hP hS dX11_place_37
abbrev rm_X11_copies : Room := { frames := 0, cells := 0, slots := 0, locals := 0 }
set_option maxRecDepth 100000 in
set_option maxHeartbeats 4000000 in
theorem c_X11_copies {g : gT} {l : Launch} {A : Nat → Prop} {a0 a1 : Nat} {nn : Nat} {f_from : Nat → Int32} {f_to : Nat → Int32}  {o : (Nat → Int32)} (h : f_X11_copies  nn f_from f_to = some o) : Std g l yX11_copies (.code yX11_copies cX11_copies 3 none :: gw) rm_X11_copies A [.ref a0, .ref a1] (wCpI g a0 a1 nn f_from f_to) (wCpI g a0 a1 nn f_from o) none := by
  refine std_v (own := RX11) (by decide +kernel) rfl (Nat.le_of_ble_eq_true rfl) ?_
  intro p e s m args below meth c Q X ret H locs hP hS ls hl
  have hx := X.1
  have hb := X.2.1
  have hl : lv_has ls 3 [(0, .ref a0), (1, .ref a1)] := hl
  have ret : ∀ {H : Heap} {locs : List Loc} {pc : Nat} {ls : Array Slot} {f_to : Nat → Int32}, some (f_to) = some o → WP g A (wCpI g a0 a1 nn f_from f_to) H → va_S A s.heap H locs → decode cX11_copies pc = .ok (.return_, 1) → W p l e rm_X11_copies s m args below meth c H locs 0 0 Q (F0 m pc ls []) := by
    intro H locs pc ls f_to h hP hS hd
    cases h
    exact ret hP hS hd
  have l2 : ∀ (n : Nat), ∀ (x2 : Int32) (f_to : Nat → Int32) (H : Heap) (locs : List Loc) (ls : Array Slot), f_X11_copies_l2 nn  f_from  n x2 f_to = some o → WP g A (wCpI g a0 a1 nn f_from f_to) H → va_S A s.heap H locs → lv_has ls 3 [(0, .ref a0), (1, .ref a1), (2, .int x2)] → W p l e rm_X11_copies s m args below meth c H locs 0 0 Q (F0 m 2 ls []) := by
    intro  n
    induction n with
    | zero =>
      intro x2 f_to H locs ls h
      exact nz_of h
    | succ n ih =>
      intro x2 f_to H locs ls h hP hS hl
      rw [f_X11_copies_l2] at h
      refine lv_iload_n hx hb dX11_copies_2 rfl (lv_at hl 2 rfl) ?_
      refine lv_aload_n hx hb dX11_copies_3 rfl (lv_at hl 1 rfl) ?_
      refine an_CpI_1 X hP dX11_copies_4 ?_
      refine lv_icmp_ge (tgt := 20) hx hb dX11_copies_5 rfl (fun c5 => ?_) (fun c5 => ?_)
      · have h := br_p c5 h
        exact ret h hP hS dX11_copies_20
      · have h := br_n c5 h
        refine lv_aload_n hx hb dX11_copies_8 rfl (lv_at hl 1 rfl) ?_
        refine lv_iload_n hx hb dX11_copies_9 rfl (lv_at hl 2 rfl) ?_
        refine lv_aload_n hx hb dX11_copies_10 rfl (lv_at hl 0 rfl) ?_
        refine lv_iload_n hx hb dX11_copies_11 rfl (lv_at hl 2 rfl) ?_
        obtain ⟨hi12, h⟩ := gv_of h
        refine al_CpI_0 X hP hi12 dX11_copies_12 ?_
        refine lv_topi (fun v1 ev1 => ?_)
        have h := lt_at ev1 h
        obtain ⟨hi13, h⟩ := gv_of h
        refine as_CpI_1 (v0 := v1) X hP hS hi13 dX11_copies_13 (fun H locs hP hS => ?_)
        obtain ⟨v2, ev2⟩ : ∃ z : Int32, z = (x2 + 1) := ⟨_, rfl⟩
        have h := lt_at ev2 h
        refine lv_iinc (v := v2) (lv' := [(2, .int v2), (0, .ref a0), (1, .ref a1)]) hx hb dX11_copies_14 hl (k := 2) rfl (by rw [ev2]; rfl) (by decide) rfl (fun ls hl => ?_)
        refine lv_goto (tgt := 2) hx hb dX11_copies_17 rfl ?_
        exact ih v2 (upd f_to (x2).toNatClampNeg v1) _ _ _ h hP hS (lv_sub hl [1, 2, 0] rfl)
  unfold f_X11_copies at h
  refine lv_iconst (v := 0) hx hb dX11_copies_0 rfl ?_
  refine lv_istore_n (lv' := [(2, .int 0), (0, .ref a0), (1, .ref a1)]) hx hb dX11_copies_1 rfl hl (by decide) rfl (fun ls hl => ?_)
  exact l2  FU (0 : Int32) f_to _ _ _ h hP hS (lv_sub hl [1, 2, 0] rfl)
abbrev rm_X11_copies_ : Room := { frames := 0, cells := 0, slots := 0, locals := 0 }
set_option maxRecDepth 100000 in
set_option maxHeartbeats 4000000 in
theorem c_X11_copies_ {g : gT} {l : Launch} {A : Nat → Prop} {a0 a1 : Nat} {nn : Nat} {f_from : Nat → Int64} {f_to : Nat → Int64}  {o : (Nat → Int64)} (h : f_X11_copies_  nn f_from f_to = some o) : Std g l yX11_copies_ (.code yX11_copies_ cX11_copies_ 3 none :: gw) rm_X11_copies_ A [.ref a0, .ref a1] (wCpL g a0 a1 nn f_from f_to) (wCpL g a0 a1 nn f_from o) none := by
  refine std_v (own := RX11) (by decide +kernel) rfl (Nat.le_of_ble_eq_true rfl) ?_
  intro p e s m args below meth c Q X ret H locs hP hS ls hl
  have hx := X.1
  have hb := X.2.1
  have hl : lv_has ls 3 [(0, .ref a0), (1, .ref a1)] := hl
  have ret : ∀ {H : Heap} {locs : List Loc} {pc : Nat} {ls : Array Slot} {f_to : Nat → Int64}, some (f_to) = some o → WP g A (wCpL g a0 a1 nn f_from f_to) H → va_S A s.heap H locs → decode cX11_copies_ pc = .ok (.return_, 1) → W p l e rm_X11_copies_ s m args below meth c H locs 0 0 Q (F0 m pc ls []) := by
    intro H locs pc ls f_to h hP hS hd
    cases h
    exact ret hP hS hd
  have l2 : ∀ (n : Nat), ∀ (x2 : Int32) (f_to : Nat → Int64) (H : Heap) (locs : List Loc) (ls : Array Slot), f_X11_copies__l2 nn  f_from  n x2 f_to = some o → WP g A (wCpL g a0 a1 nn f_from f_to) H → va_S A s.heap H locs → lv_has ls 3 [(0, .ref a0), (1, .ref a1), (2, .int x2)] → W p l e rm_X11_copies_ s m args below meth c H locs 0 0 Q (F0 m 2 ls []) := by
    intro  n
    induction n with
    | zero =>
      intro x2 f_to H locs ls h
      exact nz_of h
    | succ n ih =>
      intro x2 f_to H locs ls h hP hS hl
      rw [f_X11_copies__l2] at h
      refine lv_iload_n hx hb dX11_copies__2 rfl (lv_at hl 2 rfl) ?_
      refine lv_aload_n hx hb dX11_copies__3 rfl (lv_at hl 1 rfl) ?_
      refine an_CpL_1 X hP dX11_copies__4 ?_
      refine lv_icmp_ge (tgt := 20) hx hb dX11_copies__5 rfl (fun c5 => ?_) (fun c5 => ?_)
      · have h := br_p c5 h
        exact ret h hP hS dX11_copies__20
      · have h := br_n c5 h
        refine lv_aload_n hx hb dX11_copies__8 rfl (lv_at hl 1 rfl) ?_
        refine lv_iload_n hx hb dX11_copies__9 rfl (lv_at hl 2 rfl) ?_
        refine lv_aload_n hx hb dX11_copies__10 rfl (lv_at hl 0 rfl) ?_
        refine lv_iload_n hx hb dX11_copies__11 rfl (lv_at hl 2 rfl) ?_
        obtain ⟨hi12, h⟩ := gv_of h
        refine al_CpL_0 X hP hi12 dX11_copies__12 ?_
        refine lv_topl (fun v1 ev1 => ?_)
        have h := lt_at ev1 h
        obtain ⟨hi13, h⟩ := gv_of h
        refine as_CpL_1 (v0 := v1) X hP hS hi13 dX11_copies__13 (fun H locs hP hS => ?_)
        obtain ⟨v2, ev2⟩ : ∃ z : Int32, z = (x2 + 1) := ⟨_, rfl⟩
        have h := lt_at ev2 h
        refine lv_iinc (v := v2) (lv' := [(2, .int v2), (0, .ref a0), (1, .ref a1)]) hx hb dX11_copies__14 hl (k := 2) rfl (by rw [ev2]; rfl) (by decide) rfl (fun ls hl => ?_)
        refine lv_goto (tgt := 2) hx hb dX11_copies__17 rfl ?_
        exact ih v2 (vp_updL f_to (x2).toNatClampNeg v1) _ _ _ h hP hS (lv_sub hl [1, 2, 0] rfl)
  unfold f_X11_copies_ at h
  refine lv_iconst (v := 0) hx hb dX11_copies__0 rfl ?_
  refine lv_istore_n (lv' := [(2, .int 0), (0, .ref a0), (1, .ref a1)]) hx hb dX11_copies__1 rfl hl (by decide) rfl (fun ls hl => ?_)
  exact l2  FU (0 : Int32) f_to _ _ _ h hP hS (lv_sub hl [1, 2, 0] rfl)
abbrev rm_X11_allOver : Room := { frames := 5, cells := 0, slots := 0, locals := 127 }
set_option maxRecDepth 100000 in
set_option maxHeartbeats 4000000 in
theorem c_X11_allOver {g : gT} {l : Launch} {A : Nat → Prop} {q : Nat → Nat} {m_thrown : Int32} {m_length : Int32} {m_at : Int32} {m_fault : Int32} {m_toldWords : Int32} {m_orders : Int32} {m_value : Int32} {m_hasUnit : Bool} {m_places : Int32} {m_clocks : Int32} {m_held : Bool} {m_x : Int64} {m_y : Int64} {m_z : Int64} {m_first : Int64} {m_second : Int64} {m_aside : Int32} {m_jobs : Int32} {m_jobsImage : Int32} {m_clocksImage : Int32} {m_heldImage : Bool} {m_hasImage : Bool} {m_tape : Nat → Int32} {m_read : Nat → Int32} {m_order : Nat → Int32} {m_width : Nat → Int32} {m_guard : Nat → Int32} {m_points : Nat → Int32} {m_stages : Nat → Int32} {m_gain : Nat → Int32} {m_undo : Nat → Int32} {m_near : Nat → Bool} {m_quarter : Nat → Int64} {m_ln : Nat → Int64} {m_angle : Nat → Int64} {m_shift : Nat → Int32} {m_digit : Nat → Int32} {m_refused : Nat → Int32} {m_job : Nat → Int32} {m_jobKept : Nat → Int32} {m_result : Nat → Int32} {m_resultKept : Nat → Int32} {m_trace : Nat → Int64} {m_traceKept : Nat → Int64} {m_jobImage : Nat → Int32} {m_resultImage : Nat → Int32} {m_traceImage : Nat → Int64}  {o : Int32 × Int32 × Int32 × Bool × Int64 × Int64 × Int64 × Int64 × Int64 × Int32 × (Nat → Int32) × (Nat → Int32) × (Nat → Int32) × (Nat → Int32) × (Nat → Int64) × (Nat → Int64)} (h : f_X11_allOver  m_thrown m_hasUnit m_places m_clocks m_held m_x m_y m_z m_first m_second m_aside m_jobs m_width m_guard m_points m_stages m_undo m_near m_quarter m_ln m_angle m_shift m_digit m_job m_jobKept m_result m_resultKept m_trace m_traceKept = some o) : Std g l yX11_allOver (.code yX11_allOver cX11_allOver 5 (some .int) :: gw) rm_X11_allOver A [.ref (q 0)] (wM g q m_thrown m_length m_at m_fault m_toldWords m_orders m_value m_hasUnit m_places m_clocks m_held m_x m_y m_z m_first m_second m_aside m_jobs m_jobsImage m_clocksImage m_heldImage m_hasImage m_tape m_read m_order m_width m_guard m_points m_stages m_gain m_undo m_near m_quarter m_ln m_angle m_shift m_digit m_refused m_job m_jobKept m_result m_resultKept m_trace m_traceKept m_jobImage m_resultImage m_traceImage) (wM g q o.2.1 m_length m_at m_fault m_toldWords m_orders m_value m_hasUnit m_places o.2.2.1 o.2.2.2.1 o.2.2.2.2.1 o.2.2.2.2.2.1 o.2.2.2.2.2.2.1 o.2.2.2.2.2.2.2.1 o.2.2.2.2.2.2.2.2.1 o.2.2.2.2.2.2.2.2.2.1 m_jobs m_jobsImage m_clocksImage m_heldImage m_hasImage m_tape m_read m_order m_width m_guard m_points m_stages m_gain m_undo m_near m_quarter m_ln m_angle m_shift m_digit m_refused o.2.2.2.2.2.2.2.2.2.2.1 o.2.2.2.2.2.2.2.2.2.2.2.1 o.2.2.2.2.2.2.2.2.2.2.2.2.1 o.2.2.2.2.2.2.2.2.2.2.2.2.2.1 o.2.2.2.2.2.2.2.2.2.2.2.2.2.2.1 o.2.2.2.2.2.2.2.2.2.2.2.2.2.2.2 m_jobImage m_resultImage m_traceImage) (some (.int o.1)) := by
  refine std_i (own := RX11) (by decide +kernel) rfl (Nat.le_of_ble_eq_true rfl) ?_
  intro p e s m args below meth c Q X ret H locs hP hS ls hl
  have hx := X.1
  have hb := X.2.1
  have hl : lv_has ls 5 [(0, .ref (q 0))] := hl
  have ret : ∀ {H : Heap} {locs : List Loc} {pc : Nat} {ls : Array Slot} {v : Int32} {m_thrown : Int32} {m_clocks : Int32} {m_held : Bool} {m_x : Int64} {m_y : Int64} {m_z : Int64} {m_first : Int64} {m_second : Int64} {m_aside : Int32} {m_job : Nat → Int32} {m_jobKept : Nat → Int32} {m_result : Nat → Int32} {m_resultKept : Nat → Int32} {m_trace : Nat → Int64} {m_traceKept : Nat → Int64}, some (v, m_thrown, m_clocks, m_held, m_x, m_y, m_z, m_first, m_second, m_aside, m_job, m_jobKept, m_result, m_resultKept, m_trace, m_traceKept) = some o → WP g A (wM g q m_thrown m_length m_at m_fault m_toldWords m_orders m_value m_hasUnit m_places m_clocks m_held m_x m_y m_z m_first m_second m_aside m_jobs m_jobsImage m_clocksImage m_heldImage m_hasImage m_tape m_read m_order m_width m_guard m_points m_stages m_gain m_undo m_near m_quarter m_ln m_angle m_shift m_digit m_refused m_job m_jobKept m_result m_resultKept m_trace m_traceKept m_jobImage m_resultImage m_traceImage) H → va_S A s.heap H locs → decode cX11_allOver pc = .ok (.ireturn, 1) → W p l e rm_X11_allOver s m args below meth c H locs 0 0 Q (F0 m pc ls [.int v]) := by
    intro H locs pc ls v m_thrown m_clocks m_held m_x m_y m_z m_first m_second m_aside m_job m_jobKept m_result m_resultKept m_trace m_traceKept h hP hS hd
    cases h
    exact ret hP hS hd
  have l64 : ∀ (n : Nat), ∀ (x1 : Int32) (x2 : Bool) (x3 : Int32) (m_thrown : Int32) (m_clocks : Int32) (m_held : Bool) (m_x : Int64) (m_y : Int64) (m_z : Int64) (m_first : Int64) (m_second : Int64) (m_aside : Int32) (m_job : Nat → Int32) (m_jobKept : Nat → Int32) (m_result : Nat → Int32) (m_resultKept : Nat → Int32) (m_trace : Nat → Int64) (m_traceKept : Nat → Int64) (H : Heap) (locs : List Loc) (ls : Array Slot), f_X11_allOver_l64  m_hasUnit m_places m_jobs m_width m_guard m_points m_stages m_undo m_near m_quarter m_ln m_angle m_shift m_digit  n x1 x2 x3 m_thrown m_clocks m_held m_x m_y m_z m_first m_second m_aside m_job m_jobKept m_result m_resultKept m_trace m_traceKept = some o → WP g A (wM g q m_thrown m_length m_at m_fault m_toldWords m_orders m_value m_hasUnit m_places m_clocks m_held m_x m_y m_z m_first m_second m_aside m_jobs m_jobsImage m_clocksImage m_heldImage m_hasImage m_tape m_read m_order m_width m_guard m_points m_stages m_gain m_undo m_near m_quarter m_ln m_angle m_shift m_digit m_refused m_job m_jobKept m_result m_resultKept m_trace m_traceKept m_jobImage m_resultImage m_traceImage) H → va_S A s.heap H locs → lv_has ls 5 [(0, .ref (q 0)), (1, .int x1), (2, .int (bI x2)), (3, .int x3)] → W p l e rm_X11_allOver s m args below meth c H locs 0 0 Q (F0 m 64 ls []) := by
    intro  n
    induction n with
    | zero =>
      intro x1 x2 x3 m_thrown m_clocks m_held m_x m_y m_z m_first m_second m_aside m_job m_jobKept m_result m_resultKept m_trace m_traceKept H locs ls h
      exact nz_of h
    | succ n ih =>
      intro x1 x2 x3 m_thrown m_clocks m_held m_x m_y m_z m_first m_second m_aside m_job m_jobKept m_result m_resultKept m_trace m_traceKept H locs ls h hP hS hl
      rw [f_X11_allOver_l64] at h
      refine lv_aload_n hx hb dX11_allOver_64 rfl (lv_at hl 0 rfl) ?_
      refine lv_iconst (v := 0) hx hb dX11_allOver_65 rfl ?_
      obtain ⟨o4, hco4, h⟩ := bd_of h
      refine kV (rest := []) X dX11_allOver_66 wd_7_139 mw_X11_howMany wd_7_141 wp_9_13 hP (k0 := 0) rfl rfl rfl hS (fun _ z => z) (c_X11_howMany hco4) rfl hl.1 rfl (Nat.le_of_ble_eq_true rfl) rfl rfl ⟨Nat.le_of_ble_eq_true rfl, Nat.le_of_ble_eq_true rfl⟩ (fun H locs hP _ _ hS => ?_)
      refine W.eq (g2 := F0 m 69 ls [.int o4]) rfl ?_
      refine lv_aload_n hx hb dX11_allOver_69 rfl (lv_at hl 0 rfl) ?_
      refine lv_iconst (v := 1) hx hb dX11_allOver_70 rfl ?_
      obtain ⟨o5, hco5, h⟩ := bd_of h
      refine kV (rest := [.int o4]) X dX11_allOver_71 wd_7_139 mw_X11_howMany wd_7_141 wp_9_13 hP (k0 := 0) rfl rfl rfl hS (fun _ z => z) (c_X11_howMany hco5) rfl hl.1 rfl (Nat.le_of_ble_eq_true rfl) rfl rfl ⟨Nat.le_of_ble_eq_true rfl, Nat.le_of_ble_eq_true rfl⟩ (fun H locs hP _ _ hS => ?_)
      refine W.eq (g2 := F0 m 74 ls [.int o5, .int o4]) rfl ?_
      refine lv_iadd hx hb dX11_allOver_74 ?_
      refine lv_if_le (tgt := 90) hx hb dX11_allOver_75 rfl (fun c75 => ?_) (fun c75 => ?_)
      · have h := br_p c75 h
        refine lv_aload_n hx hb dX11_allOver_90 rfl (lv_at hl 0 rfl) ?_
        refine lv_iload_n hx hb dX11_allOver_91 rfl (lv_at hl 2 rfl) ?_
        refine pf_X11_270_M_0 (v0 := x2) X hP hS dX11_allOver_92 (fun H locs hP hS => ?_)
        refine lv_aload_n hx hb dX11_allOver_95 rfl (lv_at hl 0 rfl) ?_
        refine lv_iload_n hx hb dX11_allOver_96 rfl (lv_at hl 1 rfl) ?_
        refine pf_X11_267_M_0 (v0 := x1) X hP hS dX11_allOver_97 (fun H locs hP hS => ?_)
        refine lv_aload_n hx hb dX11_allOver_100 rfl (lv_at hl 0 rfl) ?_
        refine gf_X11_229_M_0 X hP dX11_allOver_101 ?_
        refine lv_aload_n hx hb dX11_allOver_104 rfl (lv_at hl 0 rfl) ?_
        refine gf_X11_226_M_0 X hP dX11_allOver_105 ?_
        obtain ⟨o6, hco6, h⟩ := bd_of h
        obtain ⟨hF, hFA⟩ := fo_M_CpI_18_17 hP
        refine kS (rest := []) X dX11_allOver_108 wd_7_176 mw_X11_copies wd_7_177 hF hS hFA (c_X11_copies hco6) rfl hl.1 rfl (Nat.le_of_ble_eq_true rfl) rfl rfl ⟨Nat.le_of_ble_eq_true rfl, Nat.le_of_ble_eq_true rfl⟩ (fun H locs hF1 _ hk hS => ?_)
        have hP := un_M_CpI_18_17 hP hk hF1
        refine W.eq (g2 := F0 m 111 ls []) rfl ?_
        refine lv_aload_n hx hb dX11_allOver_111 rfl (lv_at hl 0 rfl) ?_
        refine gf_X11_235_M_0 X hP dX11_allOver_112 ?_
        refine lv_aload_n hx hb dX11_allOver_115 rfl (lv_at hl 0 rfl) ?_
        refine gf_X11_232_M_0 X hP dX11_allOver_116 ?_
        obtain ⟨o7, hco7, h⟩ := bd_of h
        obtain ⟨hF, hFA⟩ := fo_M_CpI_20_19 hP
        refine kS (rest := []) X dX11_allOver_119 wd_7_176 mw_X11_copies wd_7_177 hF hS hFA (c_X11_copies hco7) rfl hl.1 rfl (Nat.le_of_ble_eq_true rfl) rfl rfl ⟨Nat.le_of_ble_eq_true rfl, Nat.le_of_ble_eq_true rfl⟩ (fun H locs hF1 _ hk hS => ?_)
        have hP := un_M_CpI_20_19 hP hk hF1
        refine W.eq (g2 := F0 m 122 ls []) rfl ?_
        refine lv_aload_n hx hb dX11_allOver_122 rfl (lv_at hl 0 rfl) ?_
        refine gf_X11_241_M_0 X hP dX11_allOver_123 ?_
        refine lv_aload_n hx hb dX11_allOver_126 rfl (lv_at hl 0 rfl) ?_
        refine gf_X11_238_M_0 X hP dX11_allOver_127 ?_
        obtain ⟨o8, hco8, h⟩ := bd_of h
        obtain ⟨hF, hFA⟩ := fo_M_CpL_22_21 hP
        refine kS (rest := []) X dX11_allOver_130 wd_7_179 mw_X11_copies_ wd_7_180 hF hS hFA (c_X11_copies_ hco8) rfl hl.1 rfl (Nat.le_of_ble_eq_true rfl) rfl rfl ⟨Nat.le_of_ble_eq_true rfl, Nat.le_of_ble_eq_true rfl⟩ (fun H locs hF1 _ hk hS => ?_)
        have hP := un_M_CpL_22_21 hP hk hF1
        refine W.eq (g2 := F0 m 133 ls []) rfl ?_
        refine lv_iload_n hx hb dX11_allOver_133 rfl (lv_at hl 3 rfl) ?_
        exact ret h hP hS dX11_allOver_134
      · have h := br_n c75 h
        refine lv_aload_n hx hb dX11_allOver_78 rfl (lv_at hl 0 rfl) ?_
        obtain ⟨o9, hco9, h⟩ := bd_of h
        refine kV (rest := []) X dX11_allOver_79 wd_7_99 mw_X11_ticks wd_7_101 wp_9_5 hP (k0 := 0) rfl rfl rfl hS (fun _ z => z) (c_X11_ticks hco9) rfl hl.1 rfl (Nat.le_of_ble_eq_true rfl) rfl rfl ⟨Nat.le_of_ble_eq_true rfl, Nat.le_of_ble_eq_true rfl⟩ (fun H locs hP _ _ hS => ?_)
        refine W.eq (g2 := F0 m 82 ls [.int o9.1]) rfl ?_
        refine lv_istore (lv' := [(4, .int o9.1), (0, .ref (q 0)), (1, .int x1), (2, .int (bI x2)), (3, .int x3)]) hx hb dX11_allOver_82 hl (by decide) rfl (fun ls hl => ?_)
        obtain ⟨v10, ev10⟩ : ∃ z : Int32, z = (x3 + 1) := ⟨_, rfl⟩
        have h := lt_at ev10 h
        refine lv_iinc (v := v10) (lv' := [(3, .int v10), (4, .int o9.1), (0, .ref (q 0)), (1, .int x1), (2, .int (bI x2))]) hx hb dX11_allOver_84 hl (k := 4) rfl (by rw [ev10]; rfl) (by decide) rfl (fun ls hl => ?_)
        refine lv_goto (tgt := 64) hx hb dX11_allOver_87 rfl ?_
        exact ih x1 x2 v10 m_thrown o9.2.1 m_held o9.2.2.1 o9.2.2.2.1 o9.2.2.2.2.1 o9.2.2.2.2.2.1 o9.2.2.2.2.2.2.1 o9.2.2.2.2.2.2.2.1 o9.2.2.2.2.2.2.2.2.1 m_jobKept o9.2.2.2.2.2.2.2.2.2.1 m_resultKept o9.2.2.2.2.2.2.2.2.2.2 m_traceKept _ _ _ h hP hS (lv_sub hl [2, 3, 4, 0] rfl)
  unfold f_X11_allOver at h
  refine lv_aload_n hx hb dX11_allOver_0 rfl (lv_at hl 0 rfl) ?_
  refine lv_iconst (v := 0) hx hb dX11_allOver_1 rfl ?_
  refine pf_X11_5_M_0 (v0 := (0 : Int32)) X hP hS dX11_allOver_2 (fun H locs hP hS => ?_)
  refine lv_aload_n hx hb dX11_allOver_5 rfl (lv_at hl 0 rfl) ?_
  refine gf_X11_260_M_0 X hP dX11_allOver_6 ?_
  refine rb_ne (tgt := 14) hx hb dX11_allOver_9 rfl (fun c9 => ?_) (fun c9 => ?_)
  · have h := br_p c9 h
    refine lv_aload_n hx hb dX11_allOver_14 rfl (lv_at hl 0 rfl) ?_
    refine gf_X11_226_M_0 X hP dX11_allOver_15 ?_
    refine lv_aload_n hx hb dX11_allOver_18 rfl (lv_at hl 0 rfl) ?_
    refine gf_X11_229_M_0 X hP dX11_allOver_19 ?_
    obtain ⟨o1, hco1, h⟩ := bd_of h
    obtain ⟨hF, hFA⟩ := fo_M_CpI_17_18 hP
    refine kS (rest := []) X dX11_allOver_22 wd_7_176 mw_X11_copies wd_7_177 hF hS hFA (c_X11_copies hco1) rfl hl.1 rfl (Nat.le_of_ble_eq_true rfl) rfl rfl ⟨Nat.le_of_ble_eq_true rfl, Nat.le_of_ble_eq_true rfl⟩ (fun H locs hF1 _ hk hS => ?_)
    have hP := un_M_CpI_17_18 hP hk hF1
    refine W.eq (g2 := F0 m 25 ls []) rfl ?_
    refine lv_aload_n hx hb dX11_allOver_25 rfl (lv_at hl 0 rfl) ?_
    refine gf_X11_232_M_0 X hP dX11_allOver_26 ?_
    refine lv_aload_n hx hb dX11_allOver_29 rfl (lv_at hl 0 rfl) ?_
    refine gf_X11_235_M_0 X hP dX11_allOver_30 ?_
    obtain ⟨o2, hco2, h⟩ := bd_of h
    obtain ⟨hF, hFA⟩ := fo_M_CpI_19_20 hP
    refine kS (rest := []) X dX11_allOver_33 wd_7_176 mw_X11_copies wd_7_177 hF hS hFA (c_X11_copies hco2) rfl hl.1 rfl (Nat.le_of_ble_eq_true rfl) rfl rfl ⟨Nat.le_of_ble_eq_true rfl, Nat.le_of_ble_eq_true rfl⟩ (fun H locs hF1 _ hk hS => ?_)
    have hP := un_M_CpI_19_20 hP hk hF1
    refine W.eq (g2 := F0 m 36 ls []) rfl ?_
    refine lv_aload_n hx hb dX11_allOver_36 rfl (lv_at hl 0 rfl) ?_
    refine gf_X11_238_M_0 X hP dX11_allOver_37 ?_
    refine lv_aload_n hx hb dX11_allOver_40 rfl (lv_at hl 0 rfl) ?_
    refine gf_X11_241_M_0 X hP dX11_allOver_41 ?_
    obtain ⟨o3, hco3, h⟩ := bd_of h
    obtain ⟨hF, hFA⟩ := fo_M_CpL_21_22 hP
    refine kS (rest := []) X dX11_allOver_44 wd_7_179 mw_X11_copies_ wd_7_180 hF hS hFA (c_X11_copies_ hco3) rfl hl.1 rfl (Nat.le_of_ble_eq_true rfl) rfl rfl ⟨Nat.le_of_ble_eq_true rfl, Nat.le_of_ble_eq_true rfl⟩ (fun H locs hF1 _ hk hS => ?_)
    have hP := un_M_CpL_21_22 hP hk hF1
    refine W.eq (g2 := F0 m 47 ls []) rfl ?_
    refine lv_aload_n hx hb dX11_allOver_47 rfl (lv_at hl 0 rfl) ?_
    refine gf_X11_267_M_0 X hP dX11_allOver_48 ?_
    refine lv_istore_n (lv' := [(1, .int m_clocks), (0, .ref (q 0))]) hx hb dX11_allOver_51 rfl hl (by decide) rfl (fun ls hl => ?_)
    refine lv_aload_n hx hb dX11_allOver_52 rfl (lv_at hl 1 rfl) ?_
    refine gf_X11_270_M_0 X hP dX11_allOver_53 ?_
    refine lv_istore_n (lv' := [(2, .int (bI m_held)), (1, .int m_clocks), (0, .ref (q 0))]) hx hb dX11_allOver_56 rfl hl (by decide) rfl (fun ls hl => ?_)
    refine lv_aload_n hx hb dX11_allOver_57 rfl (lv_at hl 2 rfl) ?_
    refine lv_iconst (v := 0) hx hb dX11_allOver_58 rfl ?_
    refine pf_X11_270_M_0 (v0 := false) X hP hS dX11_allOver_59 (fun H locs hP hS => ?_)
    refine lv_iconst (v := 0) hx hb dX11_allOver_62 rfl ?_
    refine lv_istore_n (lv' := [(3, .int 0), (2, .int (bI m_held)), (1, .int m_clocks), (0, .ref (q 0))]) hx hb dX11_allOver_63 rfl hl (by decide) rfl (fun ls hl => ?_)
    exact l64  FU m_clocks m_held (0 : Int32) (0 : Int32) m_clocks false m_x m_y m_z m_first m_second m_aside m_job o1 m_result o2 m_trace o3 _ _ _ h hP hS (lv_sub hl [3, 2, 1, 0] rfl)
  · have h := br_n c9 h
    refine lv_iconst (v := (-1)) hx hb dX11_allOver_12 rfl ?_
    exact ret h hP hS dX11_allOver_13
abbrev rm_X11_image : Room := { frames := 1, cells := 0, slots := 0, locals := 22 }
set_option maxRecDepth 100000 in
set_option maxHeartbeats 4000000 in
theorem c_X11_image {g : gT} {l : Launch} {A : Nat → Prop} {q : Nat → Nat} {m_thrown : Int32} {m_length : Int32} {m_at : Int32} {m_fault : Int32} {m_toldWords : Int32} {m_orders : Int32} {m_value : Int32} {m_hasUnit : Bool} {m_places : Int32} {m_clocks : Int32} {m_held : Bool} {m_x : Int64} {m_y : Int64} {m_z : Int64} {m_first : Int64} {m_second : Int64} {m_aside : Int32} {m_jobs : Int32} {m_jobsImage : Int32} {m_clocksImage : Int32} {m_heldImage : Bool} {m_hasImage : Bool} {m_tape : Nat → Int32} {m_read : Nat → Int32} {m_order : Nat → Int32} {m_width : Nat → Int32} {m_guard : Nat → Int32} {m_points : Nat → Int32} {m_stages : Nat → Int32} {m_gain : Nat → Int32} {m_undo : Nat → Int32} {m_near : Nat → Bool} {m_quarter : Nat → Int64} {m_ln : Nat → Int64} {m_angle : Nat → Int64} {m_shift : Nat → Int32} {m_digit : Nat → Int32} {m_refused : Nat → Int32} {m_job : Nat → Int32} {m_jobKept : Nat → Int32} {m_result : Nat → Int32} {m_resultKept : Nat → Int32} {m_trace : Nat → Int64} {m_traceKept : Nat → Int64} {m_jobImage : Nat → Int32} {m_resultImage : Nat → Int32} {m_traceImage : Nat → Int64}  {o : Int32 × Int32 × Int32 × Int32 × Bool × Bool × (Nat → Int32) × (Nat → Int32) × (Nat → Int64)} (h : f_X11_image  m_thrown m_hasUnit m_clocks m_held m_jobs m_jobsImage m_clocksImage m_heldImage m_hasImage m_job m_result m_trace m_jobImage m_resultImage m_traceImage = some o) : Std g l yX11_image (.code yX11_image cX11_image 1 (some .int) :: gw) rm_X11_image A [.ref (q 0)] (wM g q m_thrown m_length m_at m_fault m_toldWords m_orders m_value m_hasUnit m_places m_clocks m_held m_x m_y m_z m_first m_second m_aside m_jobs m_jobsImage m_clocksImage m_heldImage m_hasImage m_tape m_read m_order m_width m_guard m_points m_stages m_gain m_undo m_near m_quarter m_ln m_angle m_shift m_digit m_refused m_job m_jobKept m_result m_resultKept m_trace m_traceKept m_jobImage m_resultImage m_traceImage) (wM g q o.2.1 m_length m_at m_fault m_toldWords m_orders m_value m_hasUnit m_places m_clocks m_held m_x m_y m_z m_first m_second m_aside m_jobs o.2.2.1 o.2.2.2.1 o.2.2.2.2.1 o.2.2.2.2.2.1 m_tape m_read m_order m_width m_guard m_points m_stages m_gain m_undo m_near m_quarter m_ln m_angle m_shift m_digit m_refused m_job m_jobKept m_result m_resultKept m_trace m_traceKept o.2.2.2.2.2.2.1 o.2.2.2.2.2.2.2.1 o.2.2.2.2.2.2.2.2) (some (.int o.1)) := by
  refine std_i (own := RX11) (by decide +kernel) rfl (Nat.le_of_ble_eq_true rfl) ?_
  intro p e s m args below meth c Q X ret H locs hP hS ls hl
  have hx := X.1
  have hb := X.2.1
  have hl : lv_has ls 1 [(0, .ref (q 0))] := hl
  have ret : ∀ {H : Heap} {locs : List Loc} {pc : Nat} {ls : Array Slot} {v : Int32} {m_thrown : Int32} {m_jobsImage : Int32} {m_clocksImage : Int32} {m_heldImage : Bool} {m_hasImage : Bool} {m_jobImage : Nat → Int32} {m_resultImage : Nat → Int32} {m_traceImage : Nat → Int64}, some (v, m_thrown, m_jobsImage, m_clocksImage, m_heldImage, m_hasImage, m_jobImage, m_resultImage, m_traceImage) = some o → WP g A (wM g q m_thrown m_length m_at m_fault m_toldWords m_orders m_value m_hasUnit m_places m_clocks m_held m_x m_y m_z m_first m_second m_aside m_jobs m_jobsImage m_clocksImage m_heldImage m_hasImage m_tape m_read m_order m_width m_guard m_points m_stages m_gain m_undo m_near m_quarter m_ln m_angle m_shift m_digit m_refused m_job m_jobKept m_result m_resultKept m_trace m_traceKept m_jobImage m_resultImage m_traceImage) H → va_S A s.heap H locs → decode cX11_image pc = .ok (.ireturn, 1) → W p l e rm_X11_image s m args below meth c H locs 0 0 Q (F0 m pc ls [.int v]) := by
    intro H locs pc ls v m_thrown m_jobsImage m_clocksImage m_heldImage m_hasImage m_jobImage m_resultImage m_traceImage h hP hS hd
    cases h
    exact ret hP hS hd
  unfold f_X11_image at h
  refine lv_aload_n hx hb dX11_image_0 rfl (lv_at hl 0 rfl) ?_
  refine lv_iconst (v := 0) hx hb dX11_image_1 rfl ?_
  refine pf_X11_5_M_0 (v0 := (0 : Int32)) X hP hS dX11_image_2 (fun H locs hP hS => ?_)
  refine lv_aload_n hx hb dX11_image_5 rfl (lv_at hl 0 rfl) ?_
  refine gf_X11_260_M_0 X hP dX11_image_6 ?_
  refine rb_ne (tgt := 14) hx hb dX11_image_9 rfl (fun c9 => ?_) (fun c9 => ?_)
  · have h := br_p c9 h
    refine lv_aload_n hx hb dX11_image_14 rfl (lv_at hl 0 rfl) ?_
    refine gf_X11_226_M_0 X hP dX11_image_15 ?_
    refine lv_aload_n hx hb dX11_image_18 rfl (lv_at hl 0 rfl) ?_
    refine gf_X11_244_M_0 X hP dX11_image_19 ?_
    obtain ⟨o1, hco1, h⟩ := bd_of h
    obtain ⟨hF, hFA⟩ := fo_M_CpI_17_23 hP
    refine kS (rest := []) X dX11_image_22 wd_7_176 mw_X11_copies wd_7_177 hF hS hFA (c_X11_copies hco1) rfl hl.1 rfl (Nat.le_of_ble_eq_true rfl) rfl rfl ⟨Nat.le_of_ble_eq_true rfl, Nat.le_of_ble_eq_true rfl⟩ (fun H locs hF1 _ hk hS => ?_)
    have hP := un_M_CpI_17_23 hP hk hF1
    refine W.eq (g2 := F0 m 25 ls []) rfl ?_
    refine lv_aload_n hx hb dX11_image_25 rfl (lv_at hl 0 rfl) ?_
    refine gf_X11_232_M_0 X hP dX11_image_26 ?_
    refine lv_aload_n hx hb dX11_image_29 rfl (lv_at hl 0 rfl) ?_
    refine gf_X11_247_M_0 X hP dX11_image_30 ?_
    obtain ⟨o2, hco2, h⟩ := bd_of h
    obtain ⟨hF, hFA⟩ := fo_M_CpI_19_24 hP
    refine kS (rest := []) X dX11_image_33 wd_7_176 mw_X11_copies wd_7_177 hF hS hFA (c_X11_copies hco2) rfl hl.1 rfl (Nat.le_of_ble_eq_true rfl) rfl rfl ⟨Nat.le_of_ble_eq_true rfl, Nat.le_of_ble_eq_true rfl⟩ (fun H locs hF1 _ hk hS => ?_)
    have hP := un_M_CpI_19_24 hP hk hF1
    refine W.eq (g2 := F0 m 36 ls []) rfl ?_
    refine lv_aload_n hx hb dX11_image_36 rfl (lv_at hl 0 rfl) ?_
    refine gf_X11_238_M_0 X hP dX11_image_37 ?_
    refine lv_aload_n hx hb dX11_image_40 rfl (lv_at hl 0 rfl) ?_
    refine gf_X11_250_M_0 X hP dX11_image_41 ?_
    obtain ⟨o3, hco3, h⟩ := bd_of h
    obtain ⟨hF, hFA⟩ := fo_M_CpL_21_25 hP
    refine kS (rest := []) X dX11_image_44 wd_7_179 mw_X11_copies_ wd_7_180 hF hS hFA (c_X11_copies_ hco3) rfl hl.1 rfl (Nat.le_of_ble_eq_true rfl) rfl rfl ⟨Nat.le_of_ble_eq_true rfl, Nat.le_of_ble_eq_true rfl⟩ (fun H locs hF1 _ hk hS => ?_)
    have hP := un_M_CpL_21_25 hP hk hF1
    refine W.eq (g2 := F0 m 47 ls []) rfl ?_
    refine lv_aload_n hx hb dX11_image_47 rfl (lv_at hl 0 rfl) ?_
    refine lv_aload_n hx hb dX11_image_48 rfl (lv_at hl 0 rfl) ?_
    refine gf_X11_273_M_0 X hP dX11_image_49 ?_
    refine pf_X11_478_M_0 (v0 := m_jobs) X hP hS dX11_image_52 (fun H locs hP hS => ?_)
    refine lv_aload_n hx hb dX11_image_55 rfl (lv_at hl 0 rfl) ?_
    refine lv_aload_n hx hb dX11_image_56 rfl (lv_at hl 0 rfl) ?_
    refine gf_X11_267_M_0 X hP dX11_image_57 ?_
    refine pf_X11_481_M_0 (v0 := m_clocks) X hP hS dX11_image_60 (fun H locs hP hS => ?_)
    refine lv_aload_n hx hb dX11_image_63 rfl (lv_at hl 0 rfl) ?_
    refine lv_aload_n hx hb dX11_image_64 rfl (lv_at hl 0 rfl) ?_
    refine gf_X11_270_M_0 X hP dX11_image_65 ?_
    refine pf_X11_484_M_0 (v0 := m_held) X hP hS dX11_image_68 (fun H locs hP hS => ?_)
    refine lv_aload_n hx hb dX11_image_71 rfl (lv_at hl 0 rfl) ?_
    refine lv_iconst (v := 1) hx hb dX11_image_72 rfl ?_
    refine pf_X11_276_M_0 (v0 := true) X hP hS dX11_image_73 (fun H locs hP hS => ?_)
    refine lv_aload_n hx hb dX11_image_76 rfl (lv_at hl 0 rfl) ?_
    refine gf_X11_267_M_0 X hP dX11_image_77 ?_
    exact ret h hP hS dX11_image_80
  · have h := br_n c9 h
    refine lv_iconst (v := (-1)) hx hb dX11_image_12 rfl ?_
    exact ret h hP hS dX11_image_13
abbrev rm_X11_back : Room := { frames := 1, cells := 0, slots := 0, locals := 22 }
set_option maxRecDepth 100000 in
set_option maxHeartbeats 4000000 in
theorem c_X11_back {g : gT} {l : Launch} {A : Nat → Prop} {q : Nat → Nat} {m_thrown : Int32} {m_length : Int32} {m_at : Int32} {m_fault : Int32} {m_toldWords : Int32} {m_orders : Int32} {m_value : Int32} {m_hasUnit : Bool} {m_places : Int32} {m_clocks : Int32} {m_held : Bool} {m_x : Int64} {m_y : Int64} {m_z : Int64} {m_first : Int64} {m_second : Int64} {m_aside : Int32} {m_jobs : Int32} {m_jobsImage : Int32} {m_clocksImage : Int32} {m_heldImage : Bool} {m_hasImage : Bool} {m_tape : Nat → Int32} {m_read : Nat → Int32} {m_order : Nat → Int32} {m_width : Nat → Int32} {m_guard : Nat → Int32} {m_points : Nat → Int32} {m_stages : Nat → Int32} {m_gain : Nat → Int32} {m_undo : Nat → Int32} {m_near : Nat → Bool} {m_quarter : Nat → Int64} {m_ln : Nat → Int64} {m_angle : Nat → Int64} {m_shift : Nat → Int32} {m_digit : Nat → Int32} {m_refused : Nat → Int32} {m_job : Nat → Int32} {m_jobKept : Nat → Int32} {m_result : Nat → Int32} {m_resultKept : Nat → Int32} {m_trace : Nat → Int64} {m_traceKept : Nat → Int64} {m_jobImage : Nat → Int32} {m_resultImage : Nat → Int32} {m_traceImage : Nat → Int64}  {o : Int32 × Int32 × Int32 × Bool × Int32 × (Nat → Int32) × (Nat → Int32) × (Nat → Int64)} (h : f_X11_back  m_thrown m_clocks m_held m_jobs m_jobsImage m_clocksImage m_heldImage m_hasImage m_job m_result m_trace m_jobImage m_resultImage m_traceImage = some o) : Std g l yX11_back (.code yX11_back cX11_back 1 (some .int) :: gw) rm_X11_back A [.ref (q 0)] (wM g q m_thrown m_length m_at m_fault m_toldWords m_orders m_value m_hasUnit m_places m_clocks m_held m_x m_y m_z m_first m_second m_aside m_jobs m_jobsImage m_clocksImage m_heldImage m_hasImage m_tape m_read m_order m_width m_guard m_points m_stages m_gain m_undo m_near m_quarter m_ln m_angle m_shift m_digit m_refused m_job m_jobKept m_result m_resultKept m_trace m_traceKept m_jobImage m_resultImage m_traceImage) (wM g q o.2.1 m_length m_at m_fault m_toldWords m_orders m_value m_hasUnit m_places o.2.2.1 o.2.2.2.1 m_x m_y m_z m_first m_second m_aside o.2.2.2.2.1 m_jobsImage m_clocksImage m_heldImage m_hasImage m_tape m_read m_order m_width m_guard m_points m_stages m_gain m_undo m_near m_quarter m_ln m_angle m_shift m_digit m_refused o.2.2.2.2.2.1 m_jobKept o.2.2.2.2.2.2.1 m_resultKept o.2.2.2.2.2.2.2 m_traceKept m_jobImage m_resultImage m_traceImage) (some (.int o.1)) := by
  refine std_i (own := RX11) (by decide +kernel) rfl (Nat.le_of_ble_eq_true rfl) ?_
  intro p e s m args below meth c Q X ret H locs hP hS ls hl
  have hx := X.1
  have hb := X.2.1
  have hl : lv_has ls 1 [(0, .ref (q 0))] := hl
  have ret : ∀ {H : Heap} {locs : List Loc} {pc : Nat} {ls : Array Slot} {v : Int32} {m_thrown : Int32} {m_clocks : Int32} {m_held : Bool} {m_jobs : Int32} {m_job : Nat → Int32} {m_result : Nat → Int32} {m_trace : Nat → Int64}, some (v, m_thrown, m_clocks, m_held, m_jobs, m_job, m_result, m_trace) = some o → WP g A (wM g q m_thrown m_length m_at m_fault m_toldWords m_orders m_value m_hasUnit m_places m_clocks m_held m_x m_y m_z m_first m_second m_aside m_jobs m_jobsImage m_clocksImage m_heldImage m_hasImage m_tape m_read m_order m_width m_guard m_points m_stages m_gain m_undo m_near m_quarter m_ln m_angle m_shift m_digit m_refused m_job m_jobKept m_result m_resultKept m_trace m_traceKept m_jobImage m_resultImage m_traceImage) H → va_S A s.heap H locs → decode cX11_back pc = .ok (.ireturn, 1) → W p l e rm_X11_back s m args below meth c H locs 0 0 Q (F0 m pc ls [.int v]) := by
    intro H locs pc ls v m_thrown m_clocks m_held m_jobs m_job m_result m_trace h hP hS hd
    cases h
    exact ret hP hS hd
  unfold f_X11_back at h
  refine lv_aload_n hx hb dX11_back_0 rfl (lv_at hl 0 rfl) ?_
  refine lv_iconst (v := 0) hx hb dX11_back_1 rfl ?_
  refine pf_X11_5_M_0 (v0 := (0 : Int32)) X hP hS dX11_back_2 (fun H locs hP hS => ?_)
  refine lv_aload_n hx hb dX11_back_5 rfl (lv_at hl 0 rfl) ?_
  refine gf_X11_276_M_0 X hP dX11_back_6 ?_
  refine rb_ne (tgt := 14) hx hb dX11_back_9 rfl (fun c9 => ?_) (fun c9 => ?_)
  · have h := br_p c9 h
    refine lv_aload_n hx hb dX11_back_14 rfl (lv_at hl 0 rfl) ?_
    refine gf_X11_244_M_0 X hP dX11_back_15 ?_
    refine lv_aload_n hx hb dX11_back_18 rfl (lv_at hl 0 rfl) ?_
    refine gf_X11_226_M_0 X hP dX11_back_19 ?_
    obtain ⟨o1, hco1, h⟩ := bd_of h
    obtain ⟨hF, hFA⟩ := fo_M_CpI_23_17 hP
    refine kS (rest := []) X dX11_back_22 wd_7_176 mw_X11_copies wd_7_177 hF hS hFA (c_X11_copies hco1) rfl hl.1 rfl (Nat.le_of_ble_eq_true rfl) rfl rfl ⟨Nat.le_of_ble_eq_true rfl, Nat.le_of_ble_eq_true rfl⟩ (fun H locs hF1 _ hk hS => ?_)
    have hP := un_M_CpI_23_17 hP hk hF1
    refine W.eq (g2 := F0 m 25 ls []) rfl ?_
    refine lv_aload_n hx hb dX11_back_25 rfl (lv_at hl 0 rfl) ?_
    refine gf_X11_247_M_0 X hP dX11_back_26 ?_
    refine lv_aload_n hx hb dX11_back_29 rfl (lv_at hl 0 rfl) ?_
    refine gf_X11_232_M_0 X hP dX11_back_30 ?_
    obtain ⟨o2, hco2, h⟩ := bd_of h
    obtain ⟨hF, hFA⟩ := fo_M_CpI_24_19 hP
    refine kS (rest := []) X dX11_back_33 wd_7_176 mw_X11_copies wd_7_177 hF hS hFA (c_X11_copies hco2) rfl hl.1 rfl (Nat.le_of_ble_eq_true rfl) rfl rfl ⟨Nat.le_of_ble_eq_true rfl, Nat.le_of_ble_eq_true rfl⟩ (fun H locs hF1 _ hk hS => ?_)
    have hP := un_M_CpI_24_19 hP hk hF1
    refine W.eq (g2 := F0 m 36 ls []) rfl ?_
    refine lv_aload_n hx hb dX11_back_36 rfl (lv_at hl 0 rfl) ?_
    refine gf_X11_250_M_0 X hP dX11_back_37 ?_
    refine lv_aload_n hx hb dX11_back_40 rfl (lv_at hl 0 rfl) ?_
    refine gf_X11_238_M_0 X hP dX11_back_41 ?_
    obtain ⟨o3, hco3, h⟩ := bd_of h
    obtain ⟨hF, hFA⟩ := fo_M_CpL_25_21 hP
    refine kS (rest := []) X dX11_back_44 wd_7_179 mw_X11_copies_ wd_7_180 hF hS hFA (c_X11_copies_ hco3) rfl hl.1 rfl (Nat.le_of_ble_eq_true rfl) rfl rfl ⟨Nat.le_of_ble_eq_true rfl, Nat.le_of_ble_eq_true rfl⟩ (fun H locs hF1 _ hk hS => ?_)
    have hP := un_M_CpL_25_21 hP hk hF1
    refine W.eq (g2 := F0 m 47 ls []) rfl ?_
    refine lv_aload_n hx hb dX11_back_47 rfl (lv_at hl 0 rfl) ?_
    refine lv_aload_n hx hb dX11_back_48 rfl (lv_at hl 0 rfl) ?_
    refine gf_X11_478_M_0 X hP dX11_back_49 ?_
    refine pf_X11_273_M_0 (v0 := m_jobsImage) X hP hS dX11_back_52 (fun H locs hP hS => ?_)
    refine lv_aload_n hx hb dX11_back_55 rfl (lv_at hl 0 rfl) ?_
    refine lv_aload_n hx hb dX11_back_56 rfl (lv_at hl 0 rfl) ?_
    refine gf_X11_481_M_0 X hP dX11_back_57 ?_
    refine pf_X11_267_M_0 (v0 := m_clocksImage) X hP hS dX11_back_60 (fun H locs hP hS => ?_)
    refine lv_aload_n hx hb dX11_back_63 rfl (lv_at hl 0 rfl) ?_
    refine lv_aload_n hx hb dX11_back_64 rfl (lv_at hl 0 rfl) ?_
    refine gf_X11_484_M_0 X hP dX11_back_65 ?_
    refine pf_X11_270_M_0 (v0 := m_heldImage) X hP hS dX11_back_68 (fun H locs hP hS => ?_)
    refine lv_aload_n hx hb dX11_back_71 rfl (lv_at hl 0 rfl) ?_
    refine gf_X11_267_M_0 X hP dX11_back_72 ?_
    exact ret h hP hS dX11_back_75
  · have h := br_n c9 h
    refine lv_iconst (v := (-1)) hx hb dX11_back_12 rfl ?_
    exact ret h hP hS dX11_back_13
abbrev rm_X11_waits : Room := { frames := 2, cells := 0, slots := 0, locals := 45 }
set_option maxRecDepth 100000 in
set_option maxHeartbeats 4000000 in
theorem c_X11_waits {g : gT} {l : Launch} {A : Nat → Prop} {q : Nat → Nat} {m_thrown : Int32} {m_length : Int32} {m_at : Int32} {m_fault : Int32} {m_toldWords : Int32} {m_orders : Int32} {m_value : Int32} {m_hasUnit : Bool} {m_places : Int32} {m_clocks : Int32} {m_held : Bool} {m_x : Int64} {m_y : Int64} {m_z : Int64} {m_first : Int64} {m_second : Int64} {m_aside : Int32} {m_jobs : Int32} {m_jobsImage : Int32} {m_clocksImage : Int32} {m_heldImage : Bool} {m_hasImage : Bool} {m_tape : Nat → Int32} {m_read : Nat → Int32} {m_order : Nat → Int32} {m_width : Nat → Int32} {m_guard : Nat → Int32} {m_points : Nat → Int32} {m_stages : Nat → Int32} {m_gain : Nat → Int32} {m_undo : Nat → Int32} {m_near : Nat → Bool} {m_quarter : Nat → Int64} {m_ln : Nat → Int64} {m_angle : Nat → Int64} {m_shift : Nat → Int32} {m_digit : Nat → Int32} {m_refused : Nat → Int32} {m_job : Nat → Int32} {m_jobKept : Nat → Int32} {m_result : Nat → Int32} {m_resultKept : Nat → Int32} {m_trace : Nat → Int64} {m_traceKept : Nat → Int64} {m_jobImage : Nat → Int32} {m_resultImage : Nat → Int32} {m_traceImage : Nat → Int64} {p0 : Int32} {o : Int32 × Int32} (h : f_X11_waits p0 m_thrown m_hasUnit m_jobs m_job = some o) : Std g l yX11_waits (.code yX11_waits cX11_waits 4 (some .int) :: gw) rm_X11_waits A [.ref (q 0), .int p0] (wM g q m_thrown m_length m_at m_fault m_toldWords m_orders m_value m_hasUnit m_places m_clocks m_held m_x m_y m_z m_first m_second m_aside m_jobs m_jobsImage m_clocksImage m_heldImage m_hasImage m_tape m_read m_order m_width m_guard m_points m_stages m_gain m_undo m_near m_quarter m_ln m_angle m_shift m_digit m_refused m_job m_jobKept m_result m_resultKept m_trace m_traceKept m_jobImage m_resultImage m_traceImage) (wM g q o.2 m_length m_at m_fault m_toldWords m_orders m_value m_hasUnit m_places m_clocks m_held m_x m_y m_z m_first m_second m_aside m_jobs m_jobsImage m_clocksImage m_heldImage m_hasImage m_tape m_read m_order m_width m_guard m_points m_stages m_gain m_undo m_near m_quarter m_ln m_angle m_shift m_digit m_refused m_job m_jobKept m_result m_resultKept m_trace m_traceKept m_jobImage m_resultImage m_traceImage) (some (.int o.1)) := by
  refine std_i (own := RX11) (by decide +kernel) rfl (Nat.le_of_ble_eq_true rfl) ?_
  intro p e s m args below meth c Q X ret H locs hP hS ls hl
  have hx := X.1
  have hb := X.2.1
  have hl : lv_has ls 4 [(0, .ref (q 0)), (1, .int p0)] := hl
  have ret : ∀ {H : Heap} {locs : List Loc} {pc : Nat} {ls : Array Slot} {v : Int32} {m_thrown : Int32}, some (v, m_thrown) = some o → WP g A (wM g q m_thrown m_length m_at m_fault m_toldWords m_orders m_value m_hasUnit m_places m_clocks m_held m_x m_y m_z m_first m_second m_aside m_jobs m_jobsImage m_clocksImage m_heldImage m_hasImage m_tape m_read m_order m_width m_guard m_points m_stages m_gain m_undo m_near m_quarter m_ln m_angle m_shift m_digit m_refused m_job m_jobKept m_result m_resultKept m_trace m_traceKept m_jobImage m_resultImage m_traceImage) H → va_S A s.heap H locs → decode cX11_waits pc = .ok (.ireturn, 1) → W p l e rm_X11_waits s m args below meth c H locs 0 0 Q (F0 m pc ls [.int v]) := by
    intro H locs pc ls v m_thrown h hP hS hd
    cases h
    exact ret hP hS hd
  have b17 : ∀ (m_thrown : Int32) (H : Heap) (locs : List Loc) (ls : Array Slot), f_X11_waits_b17  m_hasUnit m_jobs m_job  m_thrown = some o → WP g A (wM g q m_thrown m_length m_at m_fault m_toldWords m_orders m_value m_hasUnit m_places m_clocks m_held m_x m_y m_z m_first m_second m_aside m_jobs m_jobsImage m_clocksImage m_heldImage m_hasImage m_tape m_read m_order m_width m_guard m_points m_stages m_gain m_undo m_near m_quarter m_ln m_angle m_shift m_digit m_refused m_job m_jobKept m_result m_resultKept m_trace m_traceKept m_jobImage m_resultImage m_traceImage) H → va_S A s.heap H locs → lv_has ls 4 [] → W p l e rm_X11_waits s m args below meth c H locs 0 0 Q (F0 m 17 ls []) := by
    intro  m_thrown H locs ls h hP hS hl
    unfold f_X11_waits_b17 at h
    refine lv_iconst (v := (-1)) hx hb dX11_waits_17 rfl ?_
    exact ret h hP hS dX11_waits_18
  have b64 : ∀ (k34 : Int32 → Int32 → Int32 → Int32 → Option (Int32 × Int32)) (hk34 : ∀ (x1 : Int32) (x2 : Int32) (x3 : Int32) (m_thrown : Int32) (H : Heap) (locs : List Loc) (ls : Array Slot), k34 x1 x2 x3 m_thrown = some o → WP g A (wM g q m_thrown m_length m_at m_fault m_toldWords m_orders m_value m_hasUnit m_places m_clocks m_held m_x m_y m_z m_first m_second m_aside m_jobs m_jobsImage m_clocksImage m_heldImage m_hasImage m_tape m_read m_order m_width m_guard m_points m_stages m_gain m_undo m_near m_quarter m_ln m_angle m_shift m_digit m_refused m_job m_jobKept m_result m_resultKept m_trace m_traceKept m_jobImage m_resultImage m_traceImage) H → va_S A s.heap H locs → lv_has ls 4 [(0, .ref (q 0)), (1, .int x1), (2, .int x2), (3, .int x3)] → W p l e rm_X11_waits s m args below meth c H locs 0 0 Q (F0 m 34 ls [])) , ∀ (x1 : Int32) (x2 : Int32) (x3 : Int32) (m_thrown : Int32) (H : Heap) (locs : List Loc) (ls : Array Slot), f_X11_waits_b64  m_hasUnit m_jobs m_job k34 x1 x2 x3 m_thrown = some o → WP g A (wM g q m_thrown m_length m_at m_fault m_toldWords m_orders m_value m_hasUnit m_places m_clocks m_held m_x m_y m_z m_first m_second m_aside m_jobs m_jobsImage m_clocksImage m_heldImage m_hasImage m_tape m_read m_order m_width m_guard m_points m_stages m_gain m_undo m_near m_quarter m_ln m_angle m_shift m_digit m_refused m_job m_jobKept m_result m_resultKept m_trace m_traceKept m_jobImage m_resultImage m_traceImage) H → va_S A s.heap H locs → lv_has ls 4 [(0, .ref (q 0)), (1, .int x1), (2, .int x2), (3, .int x3)] → W p l e rm_X11_waits s m args below meth c H locs 0 0 Q (F0 m 64 ls []) := by
    intro k34 hk34 x1 x2 x3 m_thrown H locs ls h hP hS hl
    unfold f_X11_waits_b64 at h
    obtain ⟨v3, ev3⟩ : ∃ z : Int32, z = (x3 + 1) := ⟨_, rfl⟩
    have h := lt_at ev3 h
    refine lv_iinc (v := v3) (lv' := [(3, .int v3), (0, .ref (q 0)), (1, .int x1), (2, .int x2)]) hx hb dX11_waits_64 hl (k := 3) rfl (by rw [ev3]; rfl) (by decide) rfl (fun ls hl => ?_)
    refine lv_goto (tgt := 34) hx hb dX11_waits_67 rfl ?_
    exact hk34 x1 x2 v3 m_thrown _ _ _ h hP hS (lv_sub hl [1, 2, 3, 0] rfl)
  have l34 : ∀ (n : Nat), ∀ (x1 : Int32) (x2 : Int32) (x3 : Int32) (m_thrown : Int32) (H : Heap) (locs : List Loc) (ls : Array Slot), f_X11_waits_l34  m_hasUnit m_jobs m_job  n x1 x2 x3 m_thrown = some o → WP g A (wM g q m_thrown m_length m_at m_fault m_toldWords m_orders m_value m_hasUnit m_places m_clocks m_held m_x m_y m_z m_first m_second m_aside m_jobs m_jobsImage m_clocksImage m_heldImage m_hasImage m_tape m_read m_order m_width m_guard m_points m_stages m_gain m_undo m_near m_quarter m_ln m_angle m_shift m_digit m_refused m_job m_jobKept m_result m_resultKept m_trace m_traceKept m_jobImage m_resultImage m_traceImage) H → va_S A s.heap H locs → lv_has ls 4 [(0, .ref (q 0)), (1, .int x1), (2, .int x2), (3, .int x3)] → W p l e rm_X11_waits s m args below meth c H locs 0 0 Q (F0 m 34 ls []) := by
    intro  n
    induction n with
    | zero =>
      intro x1 x2 x3 m_thrown H locs ls h
      exact nz_of h
    | succ n ih =>
      intro x1 x2 x3 m_thrown H locs ls h hP hS hl
      rw [f_X11_waits_l34] at h
      refine lv_iload_n hx hb dX11_waits_34 rfl (lv_at hl 3 rfl) ?_
      refine lv_aload_n hx hb dX11_waits_35 rfl (lv_at hl 0 rfl) ?_
      refine gf_X11_273_M_0 X hP dX11_waits_36 ?_
      refine lv_icmp_ge (tgt := 70) hx hb dX11_waits_39 rfl (fun c39 => ?_) (fun c39 => ?_)
      · have h := br_p c39 h
        refine lv_iconst (v := (-1)) hx hb dX11_waits_70 rfl ?_
        exact ret h hP hS dX11_waits_71
      · have h := br_n c39 h
        refine lv_aload_n hx hb dX11_waits_42 rfl (lv_at hl 0 rfl) ?_
        refine lv_iload_n hx hb dX11_waits_43 rfl (lv_at hl 3 rfl) ?_
        refine lv_iconst (v := 4) hx hb dX11_waits_44 rfl ?_
        obtain ⟨o1, hco1, h⟩ := bd_of h
        refine kV (rest := []) X dX11_waits_45 wd_7_78 mw_X11_of wd_7_80 wp_9_3 hP (k0 := 0) rfl rfl rfl hS (fun _ z => z) (c_X11_of hco1) rfl hl.1 rfl (Nat.le_of_ble_eq_true rfl) rfl rfl ⟨Nat.le_of_ble_eq_true rfl, Nat.le_of_ble_eq_true rfl⟩ (fun H locs hP _ _ hS => ?_)
        refine W.eq (g2 := F0 m 48 ls [.int o1]) rfl ?_
        refine lv_if_eq (tgt := 54) hx hb dX11_waits_48 rfl (fun c48 => ?_) (fun c48 => ?_)
        · have h := br_p c48 h
          refine lv_iload_n hx hb dX11_waits_54 rfl (lv_at hl 2 rfl) ?_
          refine lv_iload_n hx hb dX11_waits_55 rfl (lv_at hl 1 rfl) ?_
          refine lv_icmp_ne (tgt := 61) hx hb dX11_waits_56 rfl (fun c56 => ?_) (fun c56 => ?_)
          · have h := br_n c56 h
            obtain ⟨v2, ev2⟩ : ∃ z : Int32, z = (x2 + 1) := ⟨_, rfl⟩
            have h := lt_at ev2 h
            refine lv_iinc (v := v2) (lv' := [(2, .int v2), (0, .ref (q 0)), (1, .int x1), (3, .int x3)]) hx hb dX11_waits_61 hl (k := 2) rfl (by rw [ev2]; rfl) (by decide) rfl (fun ls hl => ?_)
            exact b64 (f_X11_waits_l34  m_hasUnit m_jobs m_job  n) ih  x1 v2 x3 m_thrown _ _ _ h hP hS (lv_sub hl [1, 2, 0, 3] rfl)
          · have h := br_p c56 h
            refine lv_iload_n hx hb dX11_waits_59 rfl (lv_at hl 3 rfl) ?_
            exact ret h hP hS dX11_waits_60
        · have h := br_n c48 h
          refine lv_goto (tgt := 64) hx hb dX11_waits_51 rfl ?_
          exact b64 (f_X11_waits_l34  m_hasUnit m_jobs m_job  n) ih  x1 x2 x3 m_thrown _ _ _ h hP hS (lv_sub hl [0, 1, 2, 3] rfl)
  unfold f_X11_waits at h
  refine lv_aload_n hx hb dX11_waits_0 rfl (lv_at hl 0 rfl) ?_
  refine lv_iconst (v := 0) hx hb dX11_waits_1 rfl ?_
  refine pf_X11_5_M_0 (v0 := (0 : Int32)) X hP hS dX11_waits_2 (fun H locs hP hS => ?_)
  refine lv_aload_n hx hb dX11_waits_5 rfl (lv_at hl 0 rfl) ?_
  refine gf_X11_260_M_0 X hP dX11_waits_6 ?_
  refine rb_eq (tgt := 17) hx hb dX11_waits_9 rfl (fun c9 => ?_) (fun c9 => ?_)
  · have h := br_n c9 h
    exact b17   (0 : Int32) _ _ _ h hP hS (lv_sub hl [] rfl)
  · have h := br_p c9 h
    refine lv_iload_n hx hb dX11_waits_12 rfl (lv_at hl 1 rfl) ?_
    refine lv_iconst (v := (-1)) hx hb dX11_waits_13 rfl ?_
    refine lv_icmp_ge (tgt := 19) hx hb dX11_waits_14 rfl (fun c14 => ?_) (fun c14 => ?_)
    · have h := br_p c14 h
      refine lv_iload_n hx hb dX11_waits_19 rfl (lv_at hl 1 rfl) ?_
      refine lv_iconst (v := (-1)) hx hb dX11_waits_20 rfl ?_
      refine lv_icmp_ne (tgt := 30) hx hb dX11_waits_21 rfl (fun c21 => ?_) (fun c21 => ?_)
      · have h := br_n c21 h
        refine lv_iconst (v := 0) hx hb dX11_waits_30 rfl ?_
        refine lv_istore_n (lv' := [(2, .int 0), (0, .ref (q 0)), (1, .int p0)]) hx hb dX11_waits_31 rfl hl (by decide) rfl (fun ls hl => ?_)
        refine lv_iconst (v := 0) hx hb dX11_waits_32 rfl ?_
        refine lv_istore_n (lv' := [(3, .int 0), (2, .int 0), (0, .ref (q 0)), (1, .int p0)]) hx hb dX11_waits_33 rfl hl (by decide) rfl (fun ls hl => ?_)
        exact l34  FU p0 (0 : Int32) (0 : Int32) (0 : Int32) _ _ _ h hP hS (lv_sub hl [2, 3, 1, 0] rfl)
      · have h := br_p c21 h
        refine lv_aload_n hx hb dX11_waits_24 rfl (lv_at hl 0 rfl) ?_
        refine lv_iconst (v := 0) hx hb dX11_waits_25 rfl ?_
        obtain ⟨o4, hco4, h⟩ := bd_of h
        refine kV (rest := []) X dX11_waits_26 wd_7_139 mw_X11_howMany wd_7_141 wp_9_13 hP (k0 := 0) rfl rfl rfl hS (fun _ z => z) (c_X11_howMany hco4) rfl hl.1 rfl (Nat.le_of_ble_eq_true rfl) rfl rfl ⟨Nat.le_of_ble_eq_true rfl, Nat.le_of_ble_eq_true rfl⟩ (fun H locs hP _ _ hS => ?_)
        refine W.eq (g2 := F0 m 29 ls [.int o4]) rfl ?_
        exact ret h hP hS dX11_waits_29
    · have h := br_n c14 h
      exact b17   (0 : Int32) _ _ _ h hP hS (lv_sub hl [] rfl)
abbrev rm_X11_status : Room := { frames := 1, cells := 0, slots := 0, locals := 25 }
set_option maxRecDepth 100000 in
set_option maxHeartbeats 4000000 in
theorem c_X11_status {g : gT} {l : Launch} {A : Nat → Prop} {q : Nat → Nat} {m_thrown : Int32} {m_length : Int32} {m_at : Int32} {m_fault : Int32} {m_toldWords : Int32} {m_orders : Int32} {m_value : Int32} {m_hasUnit : Bool} {m_places : Int32} {m_clocks : Int32} {m_held : Bool} {m_x : Int64} {m_y : Int64} {m_z : Int64} {m_first : Int64} {m_second : Int64} {m_aside : Int32} {m_jobs : Int32} {m_jobsImage : Int32} {m_clocksImage : Int32} {m_heldImage : Bool} {m_hasImage : Bool} {m_tape : Nat → Int32} {m_read : Nat → Int32} {m_order : Nat → Int32} {m_width : Nat → Int32} {m_guard : Nat → Int32} {m_points : Nat → Int32} {m_stages : Nat → Int32} {m_gain : Nat → Int32} {m_undo : Nat → Int32} {m_near : Nat → Bool} {m_quarter : Nat → Int64} {m_ln : Nat → Int64} {m_angle : Nat → Int64} {m_shift : Nat → Int32} {m_digit : Nat → Int32} {m_refused : Nat → Int32} {m_job : Nat → Int32} {m_jobKept : Nat → Int32} {m_result : Nat → Int32} {m_resultKept : Nat → Int32} {m_trace : Nat → Int64} {m_traceKept : Nat → Int64} {m_jobImage : Nat → Int32} {m_resultImage : Nat → Int32} {m_traceImage : Nat → Int64} {p0 : Int32} {o : Int32 × Int32} (h : f_X11_status p0 m_thrown m_refused = some o) : Std g l yX11_status (.code yX11_status cX11_status 2 (some .int) :: gw) rm_X11_status A [.ref (q 0), .int p0] (wM g q m_thrown m_length m_at m_fault m_toldWords m_orders m_value m_hasUnit m_places m_clocks m_held m_x m_y m_z m_first m_second m_aside m_jobs m_jobsImage m_clocksImage m_heldImage m_hasImage m_tape m_read m_order m_width m_guard m_points m_stages m_gain m_undo m_near m_quarter m_ln m_angle m_shift m_digit m_refused m_job m_jobKept m_result m_resultKept m_trace m_traceKept m_jobImage m_resultImage m_traceImage) (wM g q o.2 m_length m_at m_fault m_toldWords m_orders m_value m_hasUnit m_places m_clocks m_held m_x m_y m_z m_first m_second m_aside m_jobs m_jobsImage m_clocksImage m_heldImage m_hasImage m_tape m_read m_order m_width m_guard m_points m_stages m_gain m_undo m_near m_quarter m_ln m_angle m_shift m_digit m_refused m_job m_jobKept m_result m_resultKept m_trace m_traceKept m_jobImage m_resultImage m_traceImage) (some (.int o.1)) := by
  refine std_i (own := RX11) (by decide +kernel) rfl (Nat.le_of_ble_eq_true rfl) ?_
  intro p e s m args below meth c Q X ret H locs hP hS ls hl
  have hx := X.1
  have hb := X.2.1
  have hl : lv_has ls 2 [(0, .ref (q 0)), (1, .int p0)] := hl
  have ret : ∀ {H : Heap} {locs : List Loc} {pc : Nat} {ls : Array Slot} {v : Int32} {m_thrown : Int32}, some (v, m_thrown) = some o → WP g A (wM g q m_thrown m_length m_at m_fault m_toldWords m_orders m_value m_hasUnit m_places m_clocks m_held m_x m_y m_z m_first m_second m_aside m_jobs m_jobsImage m_clocksImage m_heldImage m_hasImage m_tape m_read m_order m_width m_guard m_points m_stages m_gain m_undo m_near m_quarter m_ln m_angle m_shift m_digit m_refused m_job m_jobKept m_result m_resultKept m_trace m_traceKept m_jobImage m_resultImage m_traceImage) H → va_S A s.heap H locs → decode cX11_status pc = .ok (.ireturn, 1) → W p l e rm_X11_status s m args below meth c H locs 0 0 Q (F0 m pc ls [.int v]) := by
    intro H locs pc ls v m_thrown h hP hS hd
    cases h
    exact ret hP hS hd
  unfold f_X11_status at h
  refine lv_aload_n hx hb dX11_status_0 rfl (lv_at hl 0 rfl) ?_
  refine lv_iconst (v := 0) hx hb dX11_status_1 rfl ?_
  refine pf_X11_5_M_0 (v0 := (0 : Int32)) X hP hS dX11_status_2 (fun H locs hP hS => ?_)
  refine lv_iload_n hx hb dX11_status_5 rfl (lv_at hl 1 rfl) ?_
  refine lv_i2l hx hb dX11_status_6 rfl ?_
  refine lv_lconst (v := 0) hx hb dX11_status_7 rfl ?_
  refine lv_ldc2 (v := 3) hx hb X.2.2.2.1 (X.2.2.2.2.1 _ wd_5_215) dX11_status_8 ?_
  obtain ⟨o1, hco1, h⟩ := bd_of h
  refine kS (rest := []) X dX11_status_11 wd_5_153 mw_X11_isIn wd_5_154 hP hS (fun _ z => z) (c_X11_isIn hco1) rfl hl.1 rfl (Nat.le_of_ble_eq_true rfl) rfl rfl ⟨Nat.le_of_ble_eq_true rfl, Nat.le_of_ble_eq_true rfl⟩ (fun H locs hP _ _ hS => ?_)
  refine W.eq (g2 := F0 m 14 ls [.int (bI o1)]) rfl ?_
  refine rb_eq (tgt := 26) hx hb dX11_status_14 rfl (fun c14 => ?_) (fun c14 => ?_)
  · have h := br_n c14 h
    refine lv_iconst (v := (-1)) hx hb dX11_status_26 rfl ?_
    exact ret h hP hS dX11_status_27
  · have h := br_p c14 h
    refine lv_aload_n hx hb dX11_status_17 rfl (lv_at hl 0 rfl) ?_
    refine gf_X11_223_M_0 X hP dX11_status_18 ?_
    refine lv_iload_n hx hb dX11_status_21 rfl (lv_at hl 1 rfl) ?_
    obtain ⟨hi22, h⟩ := gv_of h
    refine al_M_16 X hP hi22 dX11_status_22 ?_
    refine lv_goto (tgt := 27) hx hb dX11_status_23 rfl ?_
    exact ret h hP hS dX11_status_27
abbrev rm_X11_most : Room := { frames := 1, cells := 0, slots := 0, locals := 25 }
set_option maxRecDepth 100000 in
set_option maxHeartbeats 4000000 in
theorem c_X11_most {g : gT} {l : Launch} {A : Nat → Prop} {q : Nat → Nat} {m_thrown : Int32} {m_length : Int32} {m_at : Int32} {m_fault : Int32} {m_toldWords : Int32} {m_orders : Int32} {m_value : Int32} {m_hasUnit : Bool} {m_places : Int32} {m_clocks : Int32} {m_held : Bool} {m_x : Int64} {m_y : Int64} {m_z : Int64} {m_first : Int64} {m_second : Int64} {m_aside : Int32} {m_jobs : Int32} {m_jobsImage : Int32} {m_clocksImage : Int32} {m_heldImage : Bool} {m_hasImage : Bool} {m_tape : Nat → Int32} {m_read : Nat → Int32} {m_order : Nat → Int32} {m_width : Nat → Int32} {m_guard : Nat → Int32} {m_points : Nat → Int32} {m_stages : Nat → Int32} {m_gain : Nat → Int32} {m_undo : Nat → Int32} {m_near : Nat → Bool} {m_quarter : Nat → Int64} {m_ln : Nat → Int64} {m_angle : Nat → Int64} {m_shift : Nat → Int32} {m_digit : Nat → Int32} {m_refused : Nat → Int32} {m_job : Nat → Int32} {m_jobKept : Nat → Int32} {m_result : Nat → Int32} {m_resultKept : Nat → Int32} {m_trace : Nat → Int64} {m_traceKept : Nat → Int64} {m_jobImage : Nat → Int32} {m_resultImage : Nat → Int32} {m_traceImage : Nat → Int64} {p0 : Int32} {o : Int64 × Int32} (h : f_X11_most p0 m_thrown m_hasUnit m_jobs m_stages m_job m_trace = some o) : Std g l yX11_most (.code yX11_most cX11_most 7 (some .long) :: gw) rm_X11_most A [.ref (q 0), .int p0] (wM g q m_thrown m_length m_at m_fault m_toldWords m_orders m_value m_hasUnit m_places m_clocks m_held m_x m_y m_z m_first m_second m_aside m_jobs m_jobsImage m_clocksImage m_heldImage m_hasImage m_tape m_read m_order m_width m_guard m_points m_stages m_gain m_undo m_near m_quarter m_ln m_angle m_shift m_digit m_refused m_job m_jobKept m_result m_resultKept m_trace m_traceKept m_jobImage m_resultImage m_traceImage) (wM g q o.2 m_length m_at m_fault m_toldWords m_orders m_value m_hasUnit m_places m_clocks m_held m_x m_y m_z m_first m_second m_aside m_jobs m_jobsImage m_clocksImage m_heldImage m_hasImage m_tape m_read m_order m_width m_guard m_points m_stages m_gain m_undo m_near m_quarter m_ln m_angle m_shift m_digit m_refused m_job m_jobKept m_result m_resultKept m_trace m_traceKept m_jobImage m_resultImage m_traceImage) (some (.long o.1)) := by
  refine std_l (own := RX11) (by decide +kernel) rfl (Nat.le_of_ble_eq_true rfl) ?_
  intro p e s m args below meth c Q X ret H locs hP hS ls hl
  have hx := X.1
  have hb := X.2.1
  have hl : lv_has ls 7 [(0, .ref (q 0)), (1, .int p0)] := hl
  have ret : ∀ {H : Heap} {locs : List Loc} {pc : Nat} {ls : Array Slot} {v : Int64} {m_thrown : Int32}, some (v, m_thrown) = some o → WP g A (wM g q m_thrown m_length m_at m_fault m_toldWords m_orders m_value m_hasUnit m_places m_clocks m_held m_x m_y m_z m_first m_second m_aside m_jobs m_jobsImage m_clocksImage m_heldImage m_hasImage m_tape m_read m_order m_width m_guard m_points m_stages m_gain m_undo m_near m_quarter m_ln m_angle m_shift m_digit m_refused m_job m_jobKept m_result m_resultKept m_trace m_traceKept m_jobImage m_resultImage m_traceImage) H → va_S A s.heap H locs → decode cX11_most pc = .ok (.lreturn, 1) → W p l e rm_X11_most s m args below meth c H locs 0 0 Q (F0 m pc ls [.long v]) := by
    intro H locs pc ls v m_thrown h hP hS hd
    cases h
    exact ret hP hS hd
  have b24 : ∀ (m_thrown : Int32) (H : Heap) (locs : List Loc) (ls : Array Slot), f_X11_most_b24  m_hasUnit m_jobs m_stages m_job m_trace  m_thrown = some o → WP g A (wM g q m_thrown m_length m_at m_fault m_toldWords m_orders m_value m_hasUnit m_places m_clocks m_held m_x m_y m_z m_first m_second m_aside m_jobs m_jobsImage m_clocksImage m_heldImage m_hasImage m_tape m_read m_order m_width m_guard m_points m_stages m_gain m_undo m_near m_quarter m_ln m_angle m_shift m_digit m_refused m_job m_jobKept m_result m_resultKept m_trace m_traceKept m_jobImage m_resultImage m_traceImage) H → va_S A s.heap H locs → lv_has ls 7 [] → W p l e rm_X11_most s m args below meth c H locs 0 0 Q (F0 m 24 ls []) := by
    intro  m_thrown H locs ls h hP hS hl
    unfold f_X11_most_b24 at h
    refine lv_ldc2 (v := (-1)) hx hb X.2.2.2.1 (X.2.2.2.2.1 _ wd_7_5) dX11_most_24 ?_
    exact ret h hP hS dX11_most_27
  have b201 : ∀ (k33 : Int32 → Int64 → Int32 → Int32 → Option (Int64 × Int32)) (hk33 : ∀ (x1 : Int32) (x2 : Int64) (x4 : Int32) (m_thrown : Int32) (H : Heap) (locs : List Loc) (ls : Array Slot), k33 x1 x2 x4 m_thrown = some o → WP g A (wM g q m_thrown m_length m_at m_fault m_toldWords m_orders m_value m_hasUnit m_places m_clocks m_held m_x m_y m_z m_first m_second m_aside m_jobs m_jobsImage m_clocksImage m_heldImage m_hasImage m_tape m_read m_order m_width m_guard m_points m_stages m_gain m_undo m_near m_quarter m_ln m_angle m_shift m_digit m_refused m_job m_jobKept m_result m_resultKept m_trace m_traceKept m_jobImage m_resultImage m_traceImage) H → va_S A s.heap H locs → lv_has ls 7 [(0, .ref (q 0)), (1, .int x1), (2, .long x2), (4, .int x4)] → W p l e rm_X11_most s m args below meth c H locs 0 0 Q (F0 m 33 ls [])) , ∀ (x1 : Int32) (x2 : Int64) (x4 : Int32) (m_thrown : Int32) (H : Heap) (locs : List Loc) (ls : Array Slot), f_X11_most_b201  m_hasUnit m_jobs m_stages m_job m_trace k33 x1 x2 x4 m_thrown = some o → WP g A (wM g q m_thrown m_length m_at m_fault m_toldWords m_orders m_value m_hasUnit m_places m_clocks m_held m_x m_y m_z m_first m_second m_aside m_jobs m_jobsImage m_clocksImage m_heldImage m_hasImage m_tape m_read m_order m_width m_guard m_points m_stages m_gain m_undo m_near m_quarter m_ln m_angle m_shift m_digit m_refused m_job m_jobKept m_result m_resultKept m_trace m_traceKept m_jobImage m_resultImage m_traceImage) H → va_S A s.heap H locs → lv_has ls 7 [(0, .ref (q 0)), (1, .int x1), (2, .long x2), (4, .int x4)] → W p l e rm_X11_most s m args below meth c H locs 0 0 Q (F0 m 201 ls []) := by
    intro k33 hk33 x1 x2 x4 m_thrown H locs ls h hP hS hl
    unfold f_X11_most_b201 at h
    obtain ⟨v6, ev6⟩ : ∃ z : Int32, z = (x4 + 1) := ⟨_, rfl⟩
    have h := lt_at ev6 h
    refine lv_iinc (v := v6) (lv' := [(4, .int v6), (0, .ref (q 0)), (1, .int x1), (2, .long x2)]) hx hb dX11_most_201 hl (k := 3) rfl (by rw [ev6]; rfl) (by decide) rfl (fun ls hl => ?_)
    refine lv_goto (tgt := 33) hx hb dX11_most_204 rfl ?_
    exact hk33 x1 x2 v6 m_thrown _ _ _ h hP hS (lv_sub hl [1, 2, 3, 0] rfl)
  have b165 : ∀ (k33 : Int32 → Int64 → Int32 → Int32 → Option (Int64 × Int32)) (hk33 : ∀ (x1 : Int32) (x2 : Int64) (x4 : Int32) (m_thrown : Int32) (H : Heap) (locs : List Loc) (ls : Array Slot), k33 x1 x2 x4 m_thrown = some o → WP g A (wM g q m_thrown m_length m_at m_fault m_toldWords m_orders m_value m_hasUnit m_places m_clocks m_held m_x m_y m_z m_first m_second m_aside m_jobs m_jobsImage m_clocksImage m_heldImage m_hasImage m_tape m_read m_order m_width m_guard m_points m_stages m_gain m_undo m_near m_quarter m_ln m_angle m_shift m_digit m_refused m_job m_jobKept m_result m_resultKept m_trace m_traceKept m_jobImage m_resultImage m_traceImage) H → va_S A s.heap H locs → lv_has ls 7 [(0, .ref (q 0)), (1, .int x1), (2, .long x2), (4, .int x4)] → W p l e rm_X11_most s m args below meth c H locs 0 0 Q (F0 m 33 ls [])) , ∀ (x1 : Int32) (x2 : Int64) (x4 : Int32) (m_thrown : Int32) (H : Heap) (locs : List Loc) (ls : Array Slot), f_X11_most_b165  m_hasUnit m_jobs m_stages m_job m_trace k33 x1 x2 x4 m_thrown = some o → WP g A (wM g q m_thrown m_length m_at m_fault m_toldWords m_orders m_value m_hasUnit m_places m_clocks m_held m_x m_y m_z m_first m_second m_aside m_jobs m_jobsImage m_clocksImage m_heldImage m_hasImage m_tape m_read m_order m_width m_guard m_points m_stages m_gain m_undo m_near m_quarter m_ln m_angle m_shift m_digit m_refused m_job m_jobKept m_result m_resultKept m_trace m_traceKept m_jobImage m_resultImage m_traceImage) H → va_S A s.heap H locs → lv_has ls 7 [(0, .ref (q 0)), (1, .int x1), (2, .long x2), (4, .int x4)] → W p l e rm_X11_most s m args below meth c H locs 0 0 Q (F0 m 165 ls []) := by
    intro k33 hk33 x1 x2 x4 m_thrown H locs ls h hP hS hl
    unfold f_X11_most_b165 at h
    refine lv_iload_n hx hb dX11_most_165 rfl (lv_at hl 1 rfl) ?_
    refine lv_iconst (v := 3) hx hb dX11_most_166 rfl ?_
    refine lv_icmp_ne (tgt := 201) hx hb dX11_most_167 rfl (fun c167 => ?_) (fun c167 => ?_)
    · have h := br_n c167 h
      exact b201 k33 hk33  x1 x2 x4 m_thrown _ _ _ h hP hS (lv_sub hl [0, 1, 2, 3] rfl)
    · have h := br_p c167 h
      refine lv_lload_n hx hb dX11_most_170 rfl (lv_at hl 2 rfl) ?_
      refine lv_aload_n hx hb dX11_most_171 rfl (lv_at hl 0 rfl) ?_
      refine gf_X11_171_M_0 X hP dX11_most_172 ?_
      refine lv_iconst (v := 0) hx hb dX11_most_175 rfl ?_
      obtain ⟨hi176, h⟩ := gv_of h
      refine al_M_7 X hP hi176 dX11_most_176 ?_
      refine sgO X hS (sfX X).2.2.2.2.1 wd_7_0 dX11_most_177 ?_
      refine lv_aload_n hx hb dX11_most_180 rfl (lv_at hl 0 rfl) ?_
      refine lv_iload hx hb dX11_most_181 (lv_at hl 3 rfl) ?_
      refine lv_iconst (v := 0) hx hb dX11_most_183 rfl ?_
      obtain ⟨o7, hco7, h⟩ := bd_of h
      refine kV (rest := [.ref (g.2 9), .int (m_stages ((0 : Int32)).toNatClampNeg), .long x2]) X dX11_most_184 wd_7_78 mw_X11_of wd_7_80 wp_9_3 hP (k0 := 0) rfl rfl rfl hS (fun _ z => z) (c_X11_of hco7) rfl hl.1 rfl (Nat.le_of_ble_eq_true rfl) rfl rfl ⟨Nat.le_of_ble_eq_true rfl, Nat.le_of_ble_eq_true rfl⟩ (fun H locs hP _ _ hS => ?_)
      refine W.eq (g2 := F0 m 187 ls [.int o7, .ref (g.2 9), .int (m_stages ((0 : Int32)).toNatClampNeg), .long x2]) rfl ?_
      obtain ⟨hi187, h⟩ := gv_of h
      refine sti X hS (sfX X).2.2.2.2.2.2.2.2.2.2.2.1 hi187 dX11_most_187 ?_
      refine W.eq (g2 := F0 m 188 ls [.int (mdOf (o7).toNatClampNeg), .int (m_stages ((0 : Int32)).toNatClampNeg), .long x2]) rfl ?_
      refine lv_iconst (v := 1) hx hb dX11_most_188 rfl ?_
      refine jx1 h (P := fun (v8 : Int32) => ∀ ls : Array Slot, lv_has ls 7 [(0, .ref (q 0)), (1, .int x1), (4, .int x4)] → W p l e rm_X11_most s m args below meth c H locs 0 0 Q (F0 m 197 ls [.int v8, .int (m_stages ((0 : Int32)).toNatClampNeg), .long x2])) ?_ ?_
      · intro v8 h ls hl
        refine lv_imul hx hb dX11_most_197 ?_
        refine lv_i2l hx hb dX11_most_198 rfl ?_
        refine lv_ladd hx hb dX11_most_199 ?_
        refine lv_topl (fun v9 ev9 => ?_)
        have h := lt_at ev9 h
        refine lv_lstore_n (lv' := [(2, .long v9), (0, .ref (q 0)), (1, .int x1), (4, .int x4)]) hx hb dX11_most_200 rfl hl (by decide) rfl (fun ls hl => ?_)
        exact b201 k33 hk33  x1 v9 x4 m_thrown _ _ _ h hP hS (lv_sub hl [1, 2, 0, 3] rfl)
      · intro J h
        refine lv_icmp_ne (tgt := 196) hx hb dX11_most_189 rfl (fun c189 => ?_) (fun c189 => ?_)
        · refine lv_iconst (v := 3) hx hb dX11_most_196 rfl ?_
          exact J _ (lt_in c189 h) ls (lv_sub hl [0, 1, 3] rfl)
        · refine lv_iconst (v := 2) hx hb dX11_most_192 rfl ?_
          refine lv_goto (tgt := 197) hx hb dX11_most_193 rfl ?_
          exact J _ (lt_ip c189 h) ls (lv_sub hl [0, 1, 3] rfl)
  have b137 : ∀ (k33 : Int32 → Int64 → Int32 → Int32 → Option (Int64 × Int32)) (hk33 : ∀ (x1 : Int32) (x2 : Int64) (x4 : Int32) (m_thrown : Int32) (H : Heap) (locs : List Loc) (ls : Array Slot), k33 x1 x2 x4 m_thrown = some o → WP g A (wM g q m_thrown m_length m_at m_fault m_toldWords m_orders m_value m_hasUnit m_places m_clocks m_held m_x m_y m_z m_first m_second m_aside m_jobs m_jobsImage m_clocksImage m_heldImage m_hasImage m_tape m_read m_order m_width m_guard m_points m_stages m_gain m_undo m_near m_quarter m_ln m_angle m_shift m_digit m_refused m_job m_jobKept m_result m_resultKept m_trace m_traceKept m_jobImage m_resultImage m_traceImage) H → va_S A s.heap H locs → lv_has ls 7 [(0, .ref (q 0)), (1, .int x1), (2, .long x2), (4, .int x4)] → W p l e rm_X11_most s m args below meth c H locs 0 0 Q (F0 m 33 ls [])) , ∀ (x1 : Int32) (x2 : Int64) (x4 : Int32) (m_thrown : Int32) (H : Heap) (locs : List Loc) (ls : Array Slot), f_X11_most_b137  m_hasUnit m_jobs m_stages m_job m_trace k33 x1 x2 x4 m_thrown = some o → WP g A (wM g q m_thrown m_length m_at m_fault m_toldWords m_orders m_value m_hasUnit m_places m_clocks m_held m_x m_y m_z m_first m_second m_aside m_jobs m_jobsImage m_clocksImage m_heldImage m_hasImage m_tape m_read m_order m_width m_guard m_points m_stages m_gain m_undo m_near m_quarter m_ln m_angle m_shift m_digit m_refused m_job m_jobKept m_result m_resultKept m_trace m_traceKept m_jobImage m_resultImage m_traceImage) H → va_S A s.heap H locs → lv_has ls 7 [(0, .ref (q 0)), (1, .int x1), (2, .long x2), (4, .int x4)] → W p l e rm_X11_most s m args below meth c H locs 0 0 Q (F0 m 137 ls []) := by
    intro k33 hk33 x1 x2 x4 m_thrown H locs ls h hP hS hl
    unfold f_X11_most_b137 at h
    refine lv_iload_n hx hb dX11_most_137 rfl (lv_at hl 1 rfl) ?_
    refine lv_iconst (v := 2) hx hb dX11_most_138 rfl ?_
    refine lv_icmp_ne (tgt := 165) hx hb dX11_most_139 rfl (fun c139 => ?_) (fun c139 => ?_)
    · have h := br_n c139 h
      exact b165 k33 hk33  x1 x2 x4 m_thrown _ _ _ h hP hS (lv_sub hl [0, 1, 2, 3] rfl)
    · have h := br_p c139 h
      refine lv_lload_n hx hb dX11_most_142 rfl (lv_at hl 2 rfl) ?_
      refine lv_aload_n hx hb dX11_most_143 rfl (lv_at hl 0 rfl) ?_
      refine lv_iload hx hb dX11_most_144 (lv_at hl 3 rfl) ?_
      refine lv_bipush (v := 7) hx hb dX11_most_146 rfl ?_
      obtain ⟨o10, hco10, h⟩ := bd_of h
      refine kV (rest := [.long x2]) X dX11_most_148 wd_7_78 mw_X11_of wd_7_80 wp_9_3 hP (k0 := 0) rfl rfl rfl hS (fun _ z => z) (c_X11_of hco10) rfl hl.1 rfl (Nat.le_of_ble_eq_true rfl) rfl rfl ⟨Nat.le_of_ble_eq_true rfl, Nat.le_of_ble_eq_true rfl⟩ (fun H locs hP _ _ hS => ?_)
      refine W.eq (g2 := F0 m 151 ls [.int o10, .long x2]) rfl ?_
      refine lv_aload_n hx hb dX11_most_151 rfl (lv_at hl 0 rfl) ?_
      refine lv_iload hx hb dX11_most_152 (lv_at hl 3 rfl) ?_
      refine lv_bipush (v := 13) hx hb dX11_most_154 rfl ?_
      obtain ⟨o11, hco11, h⟩ := bd_of h
      refine kV (rest := [.int o10, .long x2]) X dX11_most_156 wd_7_78 mw_X11_of wd_7_80 wp_9_3 hP (k0 := 0) rfl rfl rfl hS (fun _ z => z) (c_X11_of hco11) rfl hl.1 rfl (Nat.le_of_ble_eq_true rfl) rfl rfl ⟨Nat.le_of_ble_eq_true rfl, Nat.le_of_ble_eq_true rfl⟩ (fun H locs hP _ _ hS => ?_)
      refine W.eq (g2 := F0 m 159 ls [.int o11, .int o10, .long x2]) rfl ?_
      refine lv_isub hx hb dX11_most_159 ?_
      refine lv_i2l hx hb dX11_most_160 rfl ?_
      obtain ⟨o12, hco12, h⟩ := bd_of h
      refine kS (rest := []) X dX11_most_161 wd_7_202 mw_J9_max_f86c9 wd_4_230 hP hS (fun _ z => z) (c_J9_max_f86c9 hco12) rfl hl.1 rfl (Nat.le_of_ble_eq_true rfl) rfl rfl ⟨Nat.le_of_ble_eq_true rfl, Nat.le_of_ble_eq_true rfl⟩ (fun H locs hP _ _ hS => ?_)
      refine W.eq (g2 := F0 m 164 ls [.long o12]) rfl ?_
      refine lv_lstore_n (lv' := [(2, .long o12), (0, .ref (q 0)), (1, .int x1), (4, .int x4)]) hx hb dX11_most_164 rfl hl (by decide) rfl (fun ls hl => ?_)
      exact b165 k33 hk33  x1 o12 x4 m_thrown _ _ _ h hP hS (lv_sub hl [1, 2, 0, 3] rfl)
  have b110 : ∀ (k33 : Int32 → Int64 → Int32 → Int32 → Option (Int64 × Int32)) (hk33 : ∀ (x1 : Int32) (x2 : Int64) (x4 : Int32) (m_thrown : Int32) (H : Heap) (locs : List Loc) (ls : Array Slot), k33 x1 x2 x4 m_thrown = some o → WP g A (wM g q m_thrown m_length m_at m_fault m_toldWords m_orders m_value m_hasUnit m_places m_clocks m_held m_x m_y m_z m_first m_second m_aside m_jobs m_jobsImage m_clocksImage m_heldImage m_hasImage m_tape m_read m_order m_width m_guard m_points m_stages m_gain m_undo m_near m_quarter m_ln m_angle m_shift m_digit m_refused m_job m_jobKept m_result m_resultKept m_trace m_traceKept m_jobImage m_resultImage m_traceImage) H → va_S A s.heap H locs → lv_has ls 7 [(0, .ref (q 0)), (1, .int x1), (2, .long x2), (4, .int x4)] → W p l e rm_X11_most s m args below meth c H locs 0 0 Q (F0 m 33 ls [])) , ∀ (x1 : Int32) (x2 : Int64) (x4 : Int32) (x5 : Int32) (x6 : Bool) (m_thrown : Int32) (H : Heap) (locs : List Loc) (ls : Array Slot), f_X11_most_b110  m_hasUnit m_jobs m_stages m_job m_trace k33 x1 x2 x4 x5 x6 m_thrown = some o → WP g A (wM g q m_thrown m_length m_at m_fault m_toldWords m_orders m_value m_hasUnit m_places m_clocks m_held m_x m_y m_z m_first m_second m_aside m_jobs m_jobsImage m_clocksImage m_heldImage m_hasImage m_tape m_read m_order m_width m_guard m_points m_stages m_gain m_undo m_near m_quarter m_ln m_angle m_shift m_digit m_refused m_job m_jobKept m_result m_resultKept m_trace m_traceKept m_jobImage m_resultImage m_traceImage) H → va_S A s.heap H locs → lv_has ls 7 [(0, .ref (q 0)), (1, .int x1), (2, .long x2), (4, .int x4), (5, .int x5), (6, .int (bI x6))] → W p l e rm_X11_most s m args below meth c H locs 0 0 Q (F0 m 110 ls []) := by
    intro k33 hk33 x1 x2 x4 x5 x6 m_thrown H locs ls h hP hS hl
    unfold f_X11_most_b110 at h
    refine lv_iload_n hx hb dX11_most_110 rfl (lv_at hl 1 rfl) ?_
    refine lv_iconst (v := 1) hx hb dX11_most_111 rfl ?_
    refine lv_icmp_ne (tgt := 137) hx hb dX11_most_112 rfl (fun c112 => ?_) (fun c112 => ?_)
    · have h := br_n c112 h
      exact b137 k33 hk33  x1 x2 x4 m_thrown _ _ _ h hP hS (lv_sub hl [0, 1, 2, 3] rfl)
    · have h := br_p c112 h
      refine lv_iload hx hb dX11_most_115 (lv_at hl 5 rfl) ?_
      refine rb_ne (tgt := 137) hx hb dX11_most_117 rfl (fun c117 => ?_) (fun c117 => ?_)
      · have h := br_p c117 h
        exact b137 k33 hk33  x1 x2 x4 m_thrown _ _ _ h hP hS (lv_sub hl [0, 1, 2, 3] rfl)
      · have h := br_n c117 h
        refine lv_lload_n hx hb dX11_most_120 rfl (lv_at hl 2 rfl) ?_
        refine lv_aload_n hx hb dX11_most_121 rfl (lv_at hl 0 rfl) ?_
        refine gf_X11_238_M_0 X hP dX11_most_122 ?_
        refine lv_iload hx hb dX11_most_125 (lv_at hl 4 rfl) ?_
        refine lv_iconst (v := 1) hx hb dX11_most_127 rfl ?_
        refine lv_iadd hx hb dX11_most_128 ?_
        obtain ⟨hi129, h⟩ := gv_of h
        refine al_M_21 X hP hi129 dX11_most_129 ?_
        obtain ⟨o13, hco13, h⟩ := bd_of h
        refine kS (rest := [.long x2]) X dX11_most_130 wd_6_211 mw_J9_abs_067f4 wd_3_171 hP hS (fun _ z => z) (c_J9_abs_067f4 hco13) rfl hl.1 rfl (Nat.le_of_ble_eq_true rfl) rfl rfl ⟨Nat.le_of_ble_eq_true rfl, Nat.le_of_ble_eq_true rfl⟩ (fun H locs hP _ _ hS => ?_)
        refine W.eq (g2 := F0 m 133 ls [.long o13, .long x2]) rfl ?_
        obtain ⟨o14, hco14, h⟩ := bd_of h
        refine kS (rest := []) X dX11_most_133 wd_7_202 mw_J9_max_f86c9 wd_4_230 hP hS (fun _ z => z) (c_J9_max_f86c9 hco14) rfl hl.1 rfl (Nat.le_of_ble_eq_true rfl) rfl rfl ⟨Nat.le_of_ble_eq_true rfl, Nat.le_of_ble_eq_true rfl⟩ (fun H locs hP _ _ hS => ?_)
        refine W.eq (g2 := F0 m 136 ls [.long o14]) rfl ?_
        refine lv_lstore_n (lv' := [(2, .long o14), (0, .ref (q 0)), (1, .int x1), (4, .int x4), (5, .int x5), (6, .int (bI x6))]) hx hb dX11_most_136 rfl hl (by decide) rfl (fun ls hl => ?_)
        exact b137 k33 hk33  x1 o14 x4 m_thrown _ _ _ h hP hS (lv_sub hl [1, 2, 0, 3] rfl)
  have l33 : ∀ (n : Nat), ∀ (x1 : Int32) (x2 : Int64) (x4 : Int32) (m_thrown : Int32) (H : Heap) (locs : List Loc) (ls : Array Slot), f_X11_most_l33  m_hasUnit m_jobs m_stages m_job m_trace  n x1 x2 x4 m_thrown = some o → WP g A (wM g q m_thrown m_length m_at m_fault m_toldWords m_orders m_value m_hasUnit m_places m_clocks m_held m_x m_y m_z m_first m_second m_aside m_jobs m_jobsImage m_clocksImage m_heldImage m_hasImage m_tape m_read m_order m_width m_guard m_points m_stages m_gain m_undo m_near m_quarter m_ln m_angle m_shift m_digit m_refused m_job m_jobKept m_result m_resultKept m_trace m_traceKept m_jobImage m_resultImage m_traceImage) H → va_S A s.heap H locs → lv_has ls 7 [(0, .ref (q 0)), (1, .int x1), (2, .long x2), (4, .int x4)] → W p l e rm_X11_most s m args below meth c H locs 0 0 Q (F0 m 33 ls []) := by
    intro  n
    induction n with
    | zero =>
      intro x1 x2 x4 m_thrown H locs ls h
      exact nz_of h
    | succ n ih =>
      intro x1 x2 x4 m_thrown H locs ls h hP hS hl
      rw [f_X11_most_l33] at h
      refine lv_iload hx hb dX11_most_33 (lv_at hl 3 rfl) ?_
      refine lv_aload_n hx hb dX11_most_35 rfl (lv_at hl 0 rfl) ?_
      refine gf_X11_273_M_0 X hP dX11_most_36 ?_
      refine lv_icmp_ge (tgt := 207) hx hb dX11_most_39 rfl (fun c39 => ?_) (fun c39 => ?_)
      · have h := br_p c39 h
        refine lv_lload_n hx hb dX11_most_207 rfl (lv_at hl 2 rfl) ?_
        exact ret h hP hS dX11_most_208
      · have h := br_n c39 h
        refine lv_aload_n hx hb dX11_most_42 rfl (lv_at hl 0 rfl) ?_
        refine lv_iload hx hb dX11_most_43 (lv_at hl 3 rfl) ?_
        refine lv_iconst (v := 4) hx hb dX11_most_45 rfl ?_
        obtain ⟨o2, hco2, h⟩ := bd_of h
        refine kV (rest := []) X dX11_most_46 wd_7_78 mw_X11_of wd_7_80 wp_9_3 hP (k0 := 0) rfl rfl rfl hS (fun _ z => z) (c_X11_of hco2) rfl hl.1 rfl (Nat.le_of_ble_eq_true rfl) rfl rfl ⟨Nat.le_of_ble_eq_true rfl, Nat.le_of_ble_eq_true rfl⟩ (fun H locs hP _ _ hS => ?_)
        refine W.eq (g2 := F0 m 49 ls [.int o2]) rfl ?_
        refine lv_iconst (v := 2) hx hb dX11_most_49 rfl ?_
        refine lv_icmp_eq (tgt := 56) hx hb dX11_most_50 rfl (fun c50 => ?_) (fun c50 => ?_)
        · have h := br_p c50 h
          refine lv_bipush (v := 75) hx hb dX11_most_56 rfl ?_
          refine lv_iload hx hb dX11_most_58 (lv_at hl 3 rfl) ?_
          refine lv_imul hx hb dX11_most_60 ?_
          refine lv_iconst (v := 3) hx hb dX11_most_61 rfl ?_
          refine lv_aload_n hx hb dX11_most_62 rfl (lv_at hl 0 rfl) ?_
          refine gf_X11_171_M_0 X hP dX11_most_63 ?_
          refine lv_iconst (v := 0) hx hb dX11_most_66 rfl ?_
          obtain ⟨hi67, h⟩ := gv_of h
          refine al_M_7 X hP hi67 dX11_most_67 ?_
          refine lv_imul hx hb dX11_most_68 ?_
          refine lv_iadd hx hb dX11_most_69 ?_
          refine lv_topi (fun v3 ev3 => ?_)
          have h := lt_at ev3 h
          refine lv_istore (lv' := [(5, .int v3), (0, .ref (q 0)), (1, .int x1), (2, .long x2), (4, .int x4)]) hx hb dX11_most_70 hl (by decide) rfl (fun ls hl => ?_)
          refine lv_aload_n hx hb dX11_most_72 rfl (lv_at hl 1 rfl) ?_
          refine lv_iload hx hb dX11_most_73 (lv_at hl 4 rfl) ?_
          refine lv_iconst (v := 0) hx hb dX11_most_75 rfl ?_
          obtain ⟨o4, hco4, h⟩ := bd_of h
          refine kV (rest := []) X dX11_most_76 wd_7_78 mw_X11_of wd_7_80 wp_9_3 hP (k0 := 0) rfl rfl rfl hS (fun _ z => z) (c_X11_of hco4) rfl hl.1 rfl (Nat.le_of_ble_eq_true rfl) rfl rfl ⟨Nat.le_of_ble_eq_true rfl, Nat.le_of_ble_eq_true rfl⟩ (fun H locs hP _ _ hS => ?_)
          refine W.eq (g2 := F0 m 79 ls [.int o4]) rfl ?_
          obtain ⟨o5, hco5, h⟩ := bd_of h
          refine kS (rest := []) X dX11_most_79 wd_7_2 mw_X11_isTurning wd_7_3 hP hS (fun _ z => z) (c_X11_isTurning hco5) rfl hl.1 rfl (Nat.le_of_ble_eq_true rfl) rfl rfl ⟨Nat.le_of_ble_eq_true rfl, Nat.le_of_ble_eq_true rfl⟩ (fun H locs hP _ _ hS => ?_)
          refine W.eq (g2 := F0 m 82 ls [.int (bI o5)]) rfl ?_
          refine lv_istore (lv' := [(6, .int (bI o5)), (5, .int v3), (0, .ref (q 0)), (1, .int x1), (2, .long x2), (4, .int x4)]) hx hb dX11_most_82 hl (by decide) rfl (fun ls hl => ?_)
          refine lv_iload_n hx hb dX11_most_84 rfl (lv_at hl 3 rfl) ?_
          refine lv_if_ne (tgt := 110) hx hb dX11_most_85 rfl (fun c85 => ?_) (fun c85 => ?_)
          · have h := br_n c85 h
            exact b110 (f_X11_most_l33  m_hasUnit m_jobs m_stages m_job m_trace  n) ih  x1 x2 x4 v3 o5 m_thrown _ _ _ h hP hS (lv_sub hl [2, 3, 4, 5, 1, 0] rfl)
          · have h := br_p c85 h
            refine lv_iload hx hb dX11_most_88 (lv_at hl 0 rfl) ?_
            refine rb_eq (tgt := 110) hx hb dX11_most_90 rfl (fun c90 => ?_) (fun c90 => ?_)
            · have h := br_n c90 h
              exact b110 (f_X11_most_l33  m_hasUnit m_jobs m_stages m_job m_trace  n) ih  x1 x2 x4 v3 o5 m_thrown _ _ _ h hP hS (lv_sub hl [2, 3, 4, 5, 1, 0] rfl)
            · have h := br_p c90 h
              refine lv_lload_n hx hb dX11_most_93 rfl (lv_at hl 4 rfl) ?_
              refine lv_aload_n hx hb dX11_most_94 rfl (lv_at hl 2 rfl) ?_
              refine gf_X11_238_M_0 X hP dX11_most_95 ?_
              refine lv_iload hx hb dX11_most_98 (lv_at hl 1 rfl) ?_
              refine lv_iconst (v := 2) hx hb dX11_most_100 rfl ?_
              refine lv_iadd hx hb dX11_most_101 ?_
              obtain ⟨hi102, h⟩ := gv_of h
              refine al_M_21 X hP hi102 dX11_most_102 ?_
              obtain ⟨o15, hco15, h⟩ := bd_of h
              refine kS (rest := [.long x2]) X dX11_most_103 wd_6_211 mw_J9_abs_067f4 wd_3_171 hP hS (fun _ z => z) (c_J9_abs_067f4 hco15) rfl hl.1 rfl (Nat.le_of_ble_eq_true rfl) rfl rfl ⟨Nat.le_of_ble_eq_true rfl, Nat.le_of_ble_eq_true rfl⟩ (fun H locs hP _ _ hS => ?_)
              refine W.eq (g2 := F0 m 106 ls [.long o15, .long x2]) rfl ?_
              obtain ⟨o16, hco16, h⟩ := bd_of h
              refine kS (rest := []) X dX11_most_106 wd_7_202 mw_J9_max_f86c9 wd_4_230 hP hS (fun _ z => z) (c_J9_max_f86c9 hco16) rfl hl.1 rfl (Nat.le_of_ble_eq_true rfl) rfl rfl ⟨Nat.le_of_ble_eq_true rfl, Nat.le_of_ble_eq_true rfl⟩ (fun H locs hP _ _ hS => ?_)
              refine W.eq (g2 := F0 m 109 ls [.long o16]) rfl ?_
              refine lv_lstore_n (lv' := [(2, .long o16), (6, .int (bI o5)), (5, .int v3), (0, .ref (q 0)), (1, .int x1), (4, .int x4)]) hx hb dX11_most_109 rfl hl (by decide) rfl (fun ls hl => ?_)
              exact b110 (f_X11_most_l33  m_hasUnit m_jobs m_stages m_job m_trace  n) ih  x1 o16 x4 v3 o5 m_thrown _ _ _ h hP hS (lv_sub hl [3, 4, 0, 5, 2, 1] rfl)
        · have h := br_n c50 h
          refine lv_goto (tgt := 201) hx hb dX11_most_53 rfl ?_
          exact b201 (f_X11_most_l33  m_hasUnit m_jobs m_stages m_job m_trace  n) ih  x1 x2 x4 m_thrown _ _ _ h hP hS (lv_sub hl [0, 1, 2, 3] rfl)
  unfold f_X11_most at h
  refine lv_aload_n hx hb dX11_most_0 rfl (lv_at hl 0 rfl) ?_
  refine lv_iconst (v := 0) hx hb dX11_most_1 rfl ?_
  refine pf_X11_5_M_0 (v0 := (0 : Int32)) X hP hS dX11_most_2 (fun H locs hP hS => ?_)
  refine lv_aload_n hx hb dX11_most_5 rfl (lv_at hl 0 rfl) ?_
  refine gf_X11_260_M_0 X hP dX11_most_6 ?_
  refine rb_eq (tgt := 24) hx hb dX11_most_9 rfl (fun c9 => ?_) (fun c9 => ?_)
  · have h := br_n c9 h
    exact b24   (0 : Int32) _ _ _ h hP hS (lv_sub hl [] rfl)
  · have h := br_p c9 h
    refine lv_iload_n hx hb dX11_most_12 rfl (lv_at hl 1 rfl) ?_
    refine lv_i2l hx hb dX11_most_13 rfl ?_
    refine lv_lconst (v := 0) hx hb dX11_most_14 rfl ?_
    refine lv_ldc2 (v := 3) hx hb X.2.2.2.1 (X.2.2.2.2.1 _ wd_5_215) dX11_most_15 ?_
    obtain ⟨o1, hco1, h⟩ := bd_of h
    refine kS (rest := []) X dX11_most_18 wd_5_153 mw_X11_isIn wd_5_154 hP hS (fun _ z => z) (c_X11_isIn hco1) rfl hl.1 rfl (Nat.le_of_ble_eq_true rfl) rfl rfl ⟨Nat.le_of_ble_eq_true rfl, Nat.le_of_ble_eq_true rfl⟩ (fun H locs hP _ _ hS => ?_)
    refine W.eq (g2 := F0 m 21 ls [.int (bI o1)]) rfl ?_
    refine rb_ne (tgt := 28) hx hb dX11_most_21 rfl (fun c21 => ?_) (fun c21 => ?_)
    · have h := br_p c21 h
      refine lv_lconst (v := 0) hx hb dX11_most_28 rfl ?_
      refine lv_lstore_n (lv' := [(2, .long (0 : Int64)), (0, .ref (q 0)), (1, .int p0)]) hx hb dX11_most_29 rfl hl (by decide) rfl (fun ls hl => ?_)
      refine lv_iconst (v := 0) hx hb dX11_most_30 rfl ?_
      refine lv_istore (lv' := [(4, .int 0), (2, .long (0 : Int64)), (0, .ref (q 0)), (1, .int p0)]) hx hb dX11_most_31 hl (by decide) rfl (fun ls hl => ?_)
      exact l33  FU p0 (0 : Int64) (0 : Int32) (0 : Int32) _ _ _ h hP hS (lv_sub hl [2, 3, 1, 0] rfl)
    · have h := br_n c21 h
      exact b24   (0 : Int32) _ _ _ h hP hS (lv_sub hl [] rfl)
abbrev rm_X11_count : Room := { frames := 0, cells := 0, slots := 0, locals := 0 }
set_option maxRecDepth 100000 in
set_option maxHeartbeats 4000000 in
theorem c_X11_count {g : gT} {l : Launch} {A : Nat → Prop} {q : Nat → Nat} {m_thrown : Int32} {m_length : Int32} {m_at : Int32} {m_fault : Int32} {m_toldWords : Int32} {m_orders : Int32} {m_value : Int32} {m_hasUnit : Bool} {m_places : Int32} {m_clocks : Int32} {m_held : Bool} {m_x : Int64} {m_y : Int64} {m_z : Int64} {m_first : Int64} {m_second : Int64} {m_aside : Int32} {m_jobs : Int32} {m_jobsImage : Int32} {m_clocksImage : Int32} {m_heldImage : Bool} {m_hasImage : Bool} {m_tape : Nat → Int32} {m_read : Nat → Int32} {m_order : Nat → Int32} {m_width : Nat → Int32} {m_guard : Nat → Int32} {m_points : Nat → Int32} {m_stages : Nat → Int32} {m_gain : Nat → Int32} {m_undo : Nat → Int32} {m_near : Nat → Bool} {m_quarter : Nat → Int64} {m_ln : Nat → Int64} {m_angle : Nat → Int64} {m_shift : Nat → Int32} {m_digit : Nat → Int32} {m_refused : Nat → Int32} {m_job : Nat → Int32} {m_jobKept : Nat → Int32} {m_result : Nat → Int32} {m_resultKept : Nat → Int32} {m_trace : Nat → Int64} {m_traceKept : Nat → Int64} {m_jobImage : Nat → Int32} {m_resultImage : Nat → Int32} {m_traceImage : Nat → Int64} {p0 : Int32} {o : Int32 × Int32} (h : f_X11_count p0 m_thrown m_length = some o) : Std g l yX11_count (.code yX11_count cX11_count 2 (some .int) :: gw) rm_X11_count A [.ref (q 0), .int p0] (wM g q m_thrown m_length m_at m_fault m_toldWords m_orders m_value m_hasUnit m_places m_clocks m_held m_x m_y m_z m_first m_second m_aside m_jobs m_jobsImage m_clocksImage m_heldImage m_hasImage m_tape m_read m_order m_width m_guard m_points m_stages m_gain m_undo m_near m_quarter m_ln m_angle m_shift m_digit m_refused m_job m_jobKept m_result m_resultKept m_trace m_traceKept m_jobImage m_resultImage m_traceImage) (wM g q o.2 m_length m_at m_fault m_toldWords m_orders m_value m_hasUnit m_places m_clocks m_held m_x m_y m_z m_first m_second m_aside m_jobs m_jobsImage m_clocksImage m_heldImage m_hasImage m_tape m_read m_order m_width m_guard m_points m_stages m_gain m_undo m_near m_quarter m_ln m_angle m_shift m_digit m_refused m_job m_jobKept m_result m_resultKept m_trace m_traceKept m_jobImage m_resultImage m_traceImage) (some (.int o.1)) := by
  refine std_i (own := RX11) (by decide +kernel) rfl (Nat.le_of_ble_eq_true rfl) ?_
  intro p e s m args below meth c Q X ret H locs hP hS ls hl
  have hx := X.1
  have hb := X.2.1
  have hl : lv_has ls 2 [(0, .ref (q 0)), (1, .int p0)] := hl
  have ret : ∀ {H : Heap} {locs : List Loc} {pc : Nat} {ls : Array Slot} {v : Int32} {m_thrown : Int32}, some (v, m_thrown) = some o → WP g A (wM g q m_thrown m_length m_at m_fault m_toldWords m_orders m_value m_hasUnit m_places m_clocks m_held m_x m_y m_z m_first m_second m_aside m_jobs m_jobsImage m_clocksImage m_heldImage m_hasImage m_tape m_read m_order m_width m_guard m_points m_stages m_gain m_undo m_near m_quarter m_ln m_angle m_shift m_digit m_refused m_job m_jobKept m_result m_resultKept m_trace m_traceKept m_jobImage m_resultImage m_traceImage) H → va_S A s.heap H locs → decode cX11_count pc = .ok (.ireturn, 1) → W p l e rm_X11_count s m args below meth c H locs 0 0 Q (F0 m pc ls [.int v]) := by
    intro H locs pc ls v m_thrown h hP hS hd
    cases h
    exact ret hP hS hd
  unfold f_X11_count at h
  refine lv_aload_n hx hb dX11_count_0 rfl (lv_at hl 0 rfl) ?_
  refine lv_iconst (v := 0) hx hb dX11_count_1 rfl ?_
  refine pf_X11_5_M_0 (v0 := (0 : Int32)) X hP hS dX11_count_2 (fun H locs hP hS => ?_)
  refine lv_iload_n hx hb dX11_count_5 rfl (lv_at hl 1 rfl) ?_
  refine jx1 h (P := fun (v1 : Int32) => ∀ ls : Array Slot, lv_has ls 2 [] → W p l e rm_X11_count s m args below meth c H locs 0 0 Q (F0 m 17 ls [.int v1])) ?_ ?_
  · intro v1 h ls hl
    exact ret h hP hS dX11_count_17
  · intro J h
    refine lv_if_ne (tgt := 16) hx hb dX11_count_6 rfl (fun c6 => ?_) (fun c6 => ?_)
    · refine lv_iconst (v := (-1)) hx hb dX11_count_16 rfl ?_
      exact J _ (lt_in c6 h) ls (lv_sub hl [] rfl)
    · refine lv_aload_n hx hb dX11_count_9 rfl (lv_at hl 0 rfl) ?_
      refine gf_X11_13_M_0 X hP dX11_count_10 ?_
      refine lv_goto (tgt := 17) hx hb dX11_count_13 rfl ?_
      exact J _ (lt_ip c6 h) ls (lv_sub hl [] rfl)
