abbrev rm_X11_feed : Room := { frames := 1, cells := 0, slots := 0, locals := 23 }
set_option maxRecDepth 100000 in
set_option maxHeartbeats 4000000 in
theorem c_X11_feed {g : gT} {l : Launch} {A : Nat → Prop} {q : Nat → Nat} {m_thrown : Int32} {m_length : Int32} {m_at : Int32} {m_fault : Int32} {m_toldWords : Int32} {m_orders : Int32} {m_value : Int32} {m_hasUnit : Bool} {m_places : Int32} {m_clocks : Int32} {m_held : Bool} {m_x : Int64} {m_y : Int64} {m_z : Int64} {m_first : Int64} {m_second : Int64} {m_aside : Int32} {m_jobs : Int32} {m_jobsImage : Int32} {m_clocksImage : Int32} {m_heldImage : Bool} {m_hasImage : Bool} {m_tape : Nat → Int32} {m_read : Nat → Int32} {m_order : Nat → Int32} {m_width : Nat → Int32} {m_guard : Nat → Int32} {m_points : Nat → Int32} {m_stages : Nat → Int32} {m_gain : Nat → Int32} {m_undo : Nat → Int32} {m_near : Nat → Bool} {m_quarter : Nat → Int64} {m_ln : Nat → Int64} {m_angle : Nat → Int64} {m_shift : Nat → Int32} {m_digit : Nat → Int32} {m_refused : Nat → Int32} {m_job : Nat → Int32} {m_jobKept : Nat → Int32} {m_result : Nat → Int32} {m_resultKept : Nat → Int32} {m_trace : Nat → Int64} {m_traceKept : Nat → Int64} {m_jobImage : Nat → Int32} {m_resultImage : Nat → Int32} {m_traceImage : Nat → Int64} {p0 : Int32} {p1 : Int32} {p2 : Int32} {p3 : Int32} {p4 : Int32} {o : Int32 × Int32 × Int32 × (Nat → Int32)} (h : f_X11_feed p0 p1 p2 p3 p4 m_thrown m_length m_tape = some o) : Std g l yX11_feed (.code yX11_feed cX11_feed 6 (some .int) :: gw) rm_X11_feed A [.ref (q 0), .int p0, .int p1, .int p2, .int p3, .int p4] (wM g q m_thrown m_length m_at m_fault m_toldWords m_orders m_value m_hasUnit m_places m_clocks m_held m_x m_y m_z m_first m_second m_aside m_jobs m_jobsImage m_clocksImage m_heldImage m_hasImage m_tape m_read m_order m_width m_guard m_points m_stages m_gain m_undo m_near m_quarter m_ln m_angle m_shift m_digit m_refused m_job m_jobKept m_result m_resultKept m_trace m_traceKept m_jobImage m_resultImage m_traceImage) (wM g q o.2.1 o.2.2.1 m_at m_fault m_toldWords m_orders m_value m_hasUnit m_places m_clocks m_held m_x m_y m_z m_first m_second m_aside m_jobs m_jobsImage m_clocksImage m_heldImage m_hasImage o.2.2.2 m_read m_order m_width m_guard m_points m_stages m_gain m_undo m_near m_quarter m_ln m_angle m_shift m_digit m_refused m_job m_jobKept m_result m_resultKept m_trace m_traceKept m_jobImage m_resultImage m_traceImage) (some (.int o.1)) := by
  refine std_i (own := RX11) (by decide +kernel) rfl (Nat.le_of_ble_eq_true rfl) ?_
  intro p e s m args below meth c Q X ret H locs hP hS ls hl
  have hx := X.1
  have hb := X.2.1
  have hl : lv_has ls 6 [(0, .ref (q 0)), (1, .int p0), (2, .int p1), (3, .int p2), (4, .int p3), (5, .int p4)] := hl
  have ret : ∀ {H : Heap} {locs : List Loc} {pc : Nat} {ls : Array Slot} {v : Int32} {m_thrown : Int32} {m_length : Int32} {m_tape : Nat → Int32}, some (v, m_thrown, m_length, m_tape) = some o → WP g A (wM g q m_thrown m_length m_at m_fault m_toldWords m_orders m_value m_hasUnit m_places m_clocks m_held m_x m_y m_z m_first m_second m_aside m_jobs m_jobsImage m_clocksImage m_heldImage m_hasImage m_tape m_read m_order m_width m_guard m_points m_stages m_gain m_undo m_near m_quarter m_ln m_angle m_shift m_digit m_refused m_job m_jobKept m_result m_resultKept m_trace m_traceKept m_jobImage m_resultImage m_traceImage) H → va_S A s.heap H locs → decode cX11_feed pc = .ok (.ireturn, 1) → W p l e rm_X11_feed s m args below meth c H locs 0 0 Q (F0 m pc ls [.int v]) := by
    intro H locs pc ls v m_thrown m_length m_tape h hP hS hd
    cases h
    exact ret hP hS hd
  unfold f_X11_feed at h
  refine lv_aload_n hx hb dX11_feed_0 rfl (lv_at hl 0 rfl) ?_
  refine lv_iconst (v := 0) hx hb dX11_feed_1 rfl ?_
  refine pf_X11_5_M_0 (v0 := (0 : Int32)) X hP hS dX11_feed_2 (fun H locs hP hS => ?_)
  refine lv_aload_n hx hb dX11_feed_5 rfl (lv_at hl 0 rfl) ?_
  refine gf_X11_13_M_0 X hP dX11_feed_6 ?_
  refine lv_iload_n hx hb dX11_feed_9 rfl (lv_at hl 1 rfl) ?_
  obtain ⟨o1, hco1, h⟩ := bd_of h
  refine kS (rest := [.int m_length]) X dX11_feed_10 wd_5_90 mw_X11_bytesOf wd_5_91 hP hS (fun _ z => z) (c_X11_bytesOf hco1) rfl hl.1 rfl (Nat.le_of_ble_eq_true rfl) rfl rfl ⟨Nat.le_of_ble_eq_true rfl, Nat.le_of_ble_eq_true rfl⟩ (fun H locs hP _ _ hS => ?_)
  refine W.eq (g2 := F0 m 13 ls [.int o1, .int m_length]) rfl ?_
  refine lv_iadd hx hb dX11_feed_13 ?_
  refine lv_iload_n hx hb dX11_feed_14 rfl (lv_at hl 2 rfl) ?_
  obtain ⟨o2, hco2, h⟩ := bd_of h
  refine kS (rest := [.int (m_length + o1)]) X dX11_feed_15 wd_5_90 mw_X11_bytesOf wd_5_91 hP hS (fun _ z => z) (c_X11_bytesOf hco2) rfl hl.1 rfl (Nat.le_of_ble_eq_true rfl) rfl rfl ⟨Nat.le_of_ble_eq_true rfl, Nat.le_of_ble_eq_true rfl⟩ (fun H locs hP _ _ hS => ?_)
  refine W.eq (g2 := F0 m 18 ls [.int o2, .int (m_length + o1)]) rfl ?_
  refine lv_iadd hx hb dX11_feed_18 ?_
  refine lv_iload_n hx hb dX11_feed_19 rfl (lv_at hl 3 rfl) ?_
  obtain ⟨o3, hco3, h⟩ := bd_of h
  refine kS (rest := [.int ((m_length + o1) + o2)]) X dX11_feed_20 wd_5_90 mw_X11_bytesOf wd_5_91 hP hS (fun _ z => z) (c_X11_bytesOf hco3) rfl hl.1 rfl (Nat.le_of_ble_eq_true rfl) rfl rfl ⟨Nat.le_of_ble_eq_true rfl, Nat.le_of_ble_eq_true rfl⟩ (fun H locs hP _ _ hS => ?_)
  refine W.eq (g2 := F0 m 23 ls [.int o3, .int ((m_length + o1) + o2)]) rfl ?_
  refine lv_iadd hx hb dX11_feed_23 ?_
  refine lv_iload hx hb dX11_feed_24 (lv_at hl 4 rfl) ?_
  obtain ⟨o4, hco4, h⟩ := bd_of h
  refine kS (rest := [.int (((m_length + o1) + o2) + o3)]) X dX11_feed_26 wd_5_90 mw_X11_bytesOf wd_5_91 hP hS (fun _ z => z) (c_X11_bytesOf hco4) rfl hl.1 rfl (Nat.le_of_ble_eq_true rfl) rfl rfl ⟨Nat.le_of_ble_eq_true rfl, Nat.le_of_ble_eq_true rfl⟩ (fun H locs hP _ _ hS => ?_)
  refine W.eq (g2 := F0 m 29 ls [.int o4, .int (((m_length + o1) + o2) + o3)]) rfl ?_
  refine lv_iadd hx hb dX11_feed_29 ?_
  refine lv_iload hx hb dX11_feed_30 (lv_at hl 5 rfl) ?_
  obtain ⟨o5, hco5, h⟩ := bd_of h
  refine kS (rest := [.int ((((m_length + o1) + o2) + o3) + o4)]) X dX11_feed_32 wd_5_90 mw_X11_bytesOf wd_5_91 hP hS (fun _ z => z) (c_X11_bytesOf hco5) rfl hl.1 rfl (Nat.le_of_ble_eq_true rfl) rfl rfl ⟨Nat.le_of_ble_eq_true rfl, Nat.le_of_ble_eq_true rfl⟩ (fun H locs hP _ _ hS => ?_)
  refine W.eq (g2 := F0 m 35 ls [.int o5, .int ((((m_length + o1) + o2) + o3) + o4)]) rfl ?_
  refine lv_iadd hx hb dX11_feed_35 ?_
  refine lv_sipush (v := 400) hx hb dX11_feed_36 rfl ?_
  refine lv_icmp_le (tgt := 44) hx hb dX11_feed_39 rfl (fun c39 => ?_) (fun c39 => ?_)
  · have h := br_p c39 h
    refine lv_aload_n hx hb dX11_feed_44 rfl (lv_at hl 0 rfl) ?_
    refine lv_iload_n hx hb dX11_feed_45 rfl (lv_at hl 1 rfl) ?_
    obtain ⟨o6, hco6, h⟩ := bd_of h
    refine kV (rest := []) X dX11_feed_46 wd_5_93 mw_X11_brings wd_5_95 wp_6_8 hP (k0 := 0) rfl rfl rfl hS (fun _ z => z) (c_X11_brings hco6) rfl hl.1 rfl (Nat.le_of_ble_eq_true rfl) rfl rfl ⟨Nat.le_of_ble_eq_true rfl, Nat.le_of_ble_eq_true rfl⟩ (fun H locs hP _ _ hS => ?_)
    refine W.eq (g2 := F0 m 49 ls []) rfl ?_
    refine lv_aload_n hx hb dX11_feed_49 rfl (lv_at hl 0 rfl) ?_
    refine lv_iload_n hx hb dX11_feed_50 rfl (lv_at hl 2 rfl) ?_
    obtain ⟨o7, hco7, h⟩ := bd_of h
    refine kV (rest := []) X dX11_feed_51 wd_5_93 mw_X11_brings wd_5_95 wp_6_8 hP (k0 := 0) rfl rfl rfl hS (fun _ z => z) (c_X11_brings hco7) rfl hl.1 rfl (Nat.le_of_ble_eq_true rfl) rfl rfl ⟨Nat.le_of_ble_eq_true rfl, Nat.le_of_ble_eq_true rfl⟩ (fun H locs hP _ _ hS => ?_)
    refine W.eq (g2 := F0 m 54 ls []) rfl ?_
    refine lv_aload_n hx hb dX11_feed_54 rfl (lv_at hl 0 rfl) ?_
    refine lv_iload_n hx hb dX11_feed_55 rfl (lv_at hl 3 rfl) ?_
    obtain ⟨o8, hco8, h⟩ := bd_of h
    refine kV (rest := []) X dX11_feed_56 wd_5_93 mw_X11_brings wd_5_95 wp_6_8 hP (k0 := 0) rfl rfl rfl hS (fun _ z => z) (c_X11_brings hco8) rfl hl.1 rfl (Nat.le_of_ble_eq_true rfl) rfl rfl ⟨Nat.le_of_ble_eq_true rfl, Nat.le_of_ble_eq_true rfl⟩ (fun H locs hP _ _ hS => ?_)
    refine W.eq (g2 := F0 m 59 ls []) rfl ?_
    refine lv_aload_n hx hb dX11_feed_59 rfl (lv_at hl 0 rfl) ?_
    refine lv_iload hx hb dX11_feed_60 (lv_at hl 4 rfl) ?_
    obtain ⟨o9, hco9, h⟩ := bd_of h
    refine kV (rest := []) X dX11_feed_62 wd_5_93 mw_X11_brings wd_5_95 wp_6_8 hP (k0 := 0) rfl rfl rfl hS (fun _ z => z) (c_X11_brings hco9) rfl hl.1 rfl (Nat.le_of_ble_eq_true rfl) rfl rfl ⟨Nat.le_of_ble_eq_true rfl, Nat.le_of_ble_eq_true rfl⟩ (fun H locs hP _ _ hS => ?_)
    refine W.eq (g2 := F0 m 65 ls []) rfl ?_
    refine lv_aload_n hx hb dX11_feed_65 rfl (lv_at hl 0 rfl) ?_
    refine lv_iload hx hb dX11_feed_66 (lv_at hl 5 rfl) ?_
    obtain ⟨o10, hco10, h⟩ := bd_of h
    refine kV (rest := []) X dX11_feed_68 wd_5_93 mw_X11_brings wd_5_95 wp_6_8 hP (k0 := 0) rfl rfl rfl hS (fun _ z => z) (c_X11_brings hco10) rfl hl.1 rfl (Nat.le_of_ble_eq_true rfl) rfl rfl ⟨Nat.le_of_ble_eq_true rfl, Nat.le_of_ble_eq_true rfl⟩ (fun H locs hP _ _ hS => ?_)
    refine W.eq (g2 := F0 m 71 ls []) rfl ?_
    refine lv_aload_n hx hb dX11_feed_71 rfl (lv_at hl 0 rfl) ?_
    refine gf_X11_13_M_0 X hP dX11_feed_72 ?_
    exact ret h hP hS dX11_feed_75
  · have h := br_n c39 h
    refine lv_iconst (v := (-1)) hx hb dX11_feed_42 rfl ?_
    exact ret h hP hS dX11_feed_43
abbrev rm_X11_end : Room := { frames := 0, cells := 0, slots := 0, locals := 0 }
set_option maxRecDepth 100000 in
set_option maxHeartbeats 4000000 in
theorem c_X11_end {g : gT} {l : Launch} {A : Nat → Prop} {q : Nat → Nat} {m_thrown : Int32} {m_length : Int32} {m_at : Int32} {m_fault : Int32} {m_toldWords : Int32} {m_orders : Int32} {m_value : Int32} {m_hasUnit : Bool} {m_places : Int32} {m_clocks : Int32} {m_held : Bool} {m_x : Int64} {m_y : Int64} {m_z : Int64} {m_first : Int64} {m_second : Int64} {m_aside : Int32} {m_jobs : Int32} {m_jobsImage : Int32} {m_clocksImage : Int32} {m_heldImage : Bool} {m_hasImage : Bool} {m_tape : Nat → Int32} {m_read : Nat → Int32} {m_order : Nat → Int32} {m_width : Nat → Int32} {m_guard : Nat → Int32} {m_points : Nat → Int32} {m_stages : Nat → Int32} {m_gain : Nat → Int32} {m_undo : Nat → Int32} {m_near : Nat → Bool} {m_quarter : Nat → Int64} {m_ln : Nat → Int64} {m_angle : Nat → Int64} {m_shift : Nat → Int32} {m_digit : Nat → Int32} {m_refused : Nat → Int32} {m_job : Nat → Int32} {m_jobKept : Nat → Int32} {m_result : Nat → Int32} {m_resultKept : Nat → Int32} {m_trace : Nat → Int64} {m_traceKept : Nat → Int64} {m_jobImage : Nat → Int32} {m_resultImage : Nat → Int32} {m_traceImage : Nat → Int64} {p0 : Int32} {o : Bool × Int32 × Int32} (h : f_X11_end p0 m_thrown m_length = some o) : Std g l yX11_end (.code yX11_end cX11_end 2 (some .boolean) :: gw) rm_X11_end A [.ref (q 0), .int p0] (wM g q m_thrown m_length m_at m_fault m_toldWords m_orders m_value m_hasUnit m_places m_clocks m_held m_x m_y m_z m_first m_second m_aside m_jobs m_jobsImage m_clocksImage m_heldImage m_hasImage m_tape m_read m_order m_width m_guard m_points m_stages m_gain m_undo m_near m_quarter m_ln m_angle m_shift m_digit m_refused m_job m_jobKept m_result m_resultKept m_trace m_traceKept m_jobImage m_resultImage m_traceImage) (wM g q o.2.1 o.2.2 m_at m_fault m_toldWords m_orders m_value m_hasUnit m_places m_clocks m_held m_x m_y m_z m_first m_second m_aside m_jobs m_jobsImage m_clocksImage m_heldImage m_hasImage m_tape m_read m_order m_width m_guard m_points m_stages m_gain m_undo m_near m_quarter m_ln m_angle m_shift m_digit m_refused m_job m_jobKept m_result m_resultKept m_trace m_traceKept m_jobImage m_resultImage m_traceImage) (some (.int (bI o.1))) := by
  refine std_z (own := RX11) (by decide +kernel) rfl (Nat.le_of_ble_eq_true rfl) ?_
  intro p e s m args below meth c Q X ret H locs hP hS ls hl
  have hx := X.1
  have hb := X.2.1
  have hl : lv_has ls 2 [(0, .ref (q 0)), (1, .int p0)] := hl
  have ret : ∀ {H : Heap} {locs : List Loc} {pc : Nat} {ls : Array Slot} {v : Bool} {m_thrown : Int32} {m_length : Int32}, some (v, m_thrown, m_length) = some o → WP g A (wM g q m_thrown m_length m_at m_fault m_toldWords m_orders m_value m_hasUnit m_places m_clocks m_held m_x m_y m_z m_first m_second m_aside m_jobs m_jobsImage m_clocksImage m_heldImage m_hasImage m_tape m_read m_order m_width m_guard m_points m_stages m_gain m_undo m_near m_quarter m_ln m_angle m_shift m_digit m_refused m_job m_jobKept m_result m_resultKept m_trace m_traceKept m_jobImage m_resultImage m_traceImage) H → va_S A s.heap H locs → decode cX11_end pc = .ok (.ireturn, 1) → W p l e rm_X11_end s m args below meth c H locs 0 0 Q (F0 m pc ls [.int (bI v)]) := by
    intro H locs pc ls v m_thrown m_length h hP hS hd
    cases h
    exact ret hP hS hd
  have b17 : ∀ (m_thrown : Int32) (m_length : Int32) (H : Heap) (locs : List Loc) (ls : Array Slot), f_X11_end_b17    m_thrown m_length = some o → WP g A (wM g q m_thrown m_length m_at m_fault m_toldWords m_orders m_value m_hasUnit m_places m_clocks m_held m_x m_y m_z m_first m_second m_aside m_jobs m_jobsImage m_clocksImage m_heldImage m_hasImage m_tape m_read m_order m_width m_guard m_points m_stages m_gain m_undo m_near m_quarter m_ln m_angle m_shift m_digit m_refused m_job m_jobKept m_result m_resultKept m_trace m_traceKept m_jobImage m_resultImage m_traceImage) H → va_S A s.heap H locs → lv_has ls 2 [] → W p l e rm_X11_end s m args below meth c H locs 0 0 Q (F0 m 17 ls []) := by
    intro  m_thrown m_length H locs ls h hP hS hl
    unfold f_X11_end_b17 at h
    refine lv_iconst (v := 0) hx hb dX11_end_17 rfl ?_
    exact ret h hP hS dX11_end_18
  unfold f_X11_end at h
  refine lv_aload_n hx hb dX11_end_0 rfl (lv_at hl 0 rfl) ?_
  refine lv_iconst (v := 0) hx hb dX11_end_1 rfl ?_
  refine pf_X11_5_M_0 (v0 := (0 : Int32)) X hP hS dX11_end_2 (fun H locs hP hS => ?_)
  refine lv_iload_n hx hb dX11_end_5 rfl (lv_at hl 1 rfl) ?_
  refine lv_if_lt (tgt := 17) hx hb dX11_end_6 rfl (fun c6 => ?_) (fun c6 => ?_)
  · have h := br_p c6 h
    exact b17   (0 : Int32) m_length _ _ _ h hP hS (lv_sub hl [] rfl)
  · have h := br_n c6 h
    refine lv_iload_n hx hb dX11_end_9 rfl (lv_at hl 1 rfl) ?_
    refine lv_aload_n hx hb dX11_end_10 rfl (lv_at hl 0 rfl) ?_
    refine gf_X11_13_M_0 X hP dX11_end_11 ?_
    refine lv_icmp_le (tgt := 19) hx hb dX11_end_14 rfl (fun c14 => ?_) (fun c14 => ?_)
    · have h := br_p c14 h
      refine lv_aload_n hx hb dX11_end_19 rfl (lv_at hl 0 rfl) ?_
      refine lv_iload_n hx hb dX11_end_20 rfl (lv_at hl 1 rfl) ?_
      refine pf_X11_13_M_0 (v0 := p0) X hP hS dX11_end_21 (fun H locs hP hS => ?_)
      refine lv_iconst (v := 1) hx hb dX11_end_24 rfl ?_
      exact ret h hP hS dX11_end_25
    · have h := br_n c14 h
      exact b17   (0 : Int32) m_length _ _ _ h hP hS (lv_sub hl [] rfl)
abbrev rm_X11_here : Room := { frames := 0, cells := 0, slots := 0, locals := 0 }
set_option maxRecDepth 100000 in
set_option maxHeartbeats 4000000 in
theorem c_X11_here {g : gT} {l : Launch} {A : Nat → Prop} {q : Nat → Nat} {m_thrown : Int32} {m_length : Int32} {m_at : Int32} {m_fault : Int32} {m_toldWords : Int32} {m_orders : Int32} {m_value : Int32} {m_hasUnit : Bool} {m_places : Int32} {m_clocks : Int32} {m_held : Bool} {m_x : Int64} {m_y : Int64} {m_z : Int64} {m_first : Int64} {m_second : Int64} {m_aside : Int32} {m_jobs : Int32} {m_jobsImage : Int32} {m_clocksImage : Int32} {m_heldImage : Bool} {m_hasImage : Bool} {m_tape : Nat → Int32} {m_read : Nat → Int32} {m_order : Nat → Int32} {m_width : Nat → Int32} {m_guard : Nat → Int32} {m_points : Nat → Int32} {m_stages : Nat → Int32} {m_gain : Nat → Int32} {m_undo : Nat → Int32} {m_near : Nat → Bool} {m_quarter : Nat → Int64} {m_ln : Nat → Int64} {m_angle : Nat → Int64} {m_shift : Nat → Int32} {m_digit : Nat → Int32} {m_refused : Nat → Int32} {m_job : Nat → Int32} {m_jobKept : Nat → Int32} {m_result : Nat → Int32} {m_resultKept : Nat → Int32} {m_trace : Nat → Int64} {m_traceKept : Nat → Int64} {m_jobImage : Nat → Int32} {m_resultImage : Nat → Int32} {m_traceImage : Nat → Int64}  {o : Int32} (h : f_X11_here  m_length m_at m_tape = some o) : Std g l yX11_here (.code yX11_here cX11_here 1 (some .int) :: gw) rm_X11_here A [.ref (q 0)] (wM g q m_thrown m_length m_at m_fault m_toldWords m_orders m_value m_hasUnit m_places m_clocks m_held m_x m_y m_z m_first m_second m_aside m_jobs m_jobsImage m_clocksImage m_heldImage m_hasImage m_tape m_read m_order m_width m_guard m_points m_stages m_gain m_undo m_near m_quarter m_ln m_angle m_shift m_digit m_refused m_job m_jobKept m_result m_resultKept m_trace m_traceKept m_jobImage m_resultImage m_traceImage) (wM g q m_thrown m_length m_at m_fault m_toldWords m_orders m_value m_hasUnit m_places m_clocks m_held m_x m_y m_z m_first m_second m_aside m_jobs m_jobsImage m_clocksImage m_heldImage m_hasImage m_tape m_read m_order m_width m_guard m_points m_stages m_gain m_undo m_near m_quarter m_ln m_angle m_shift m_digit m_refused m_job m_jobKept m_result m_resultKept m_trace m_traceKept m_jobImage m_resultImage m_traceImage) (some (.int o)) := by
  refine std_i (own := RX11) (by decide +kernel) rfl (Nat.le_of_ble_eq_true rfl) ?_
  intro p e s m args below meth c Q X ret H locs hP hS ls hl
  have hx := X.1
  have hb := X.2.1
  have hl : lv_has ls 1 [(0, .ref (q 0))] := hl
  have ret : ∀ {H : Heap} {locs : List Loc} {pc : Nat} {ls : Array Slot} {v : Int32} , some (v) = some o → WP g A (wM g q m_thrown m_length m_at m_fault m_toldWords m_orders m_value m_hasUnit m_places m_clocks m_held m_x m_y m_z m_first m_second m_aside m_jobs m_jobsImage m_clocksImage m_heldImage m_hasImage m_tape m_read m_order m_width m_guard m_points m_stages m_gain m_undo m_near m_quarter m_ln m_angle m_shift m_digit m_refused m_job m_jobKept m_result m_resultKept m_trace m_traceKept m_jobImage m_resultImage m_traceImage) H → va_S A s.heap H locs → decode cX11_here pc = .ok (.ireturn, 1) → W p l e rm_X11_here s m args below meth c H locs 0 0 Q (F0 m pc ls [.int v]) := by
    intro H locs pc ls v h hP hS hd
    cases h
    exact ret hP hS hd
  unfold f_X11_here at h
  refine lv_aload_n hx hb dX11_here_0 rfl (lv_at hl 0 rfl) ?_
  refine gf_X11_24_M_0 X hP dX11_here_1 ?_
  refine lv_aload_n hx hb dX11_here_4 rfl (lv_at hl 0 rfl) ?_
  refine gf_X11_13_M_0 X hP dX11_here_5 ?_
  refine lv_icmp_ge (tgt := 27) hx hb dX11_here_8 rfl (fun c8 => ?_) (fun c8 => ?_)
  · have h := br_p c8 h
    refine lv_iconst (v := (-1)) hx hb dX11_here_27 rfl ?_
    exact ret h hP hS dX11_here_28
  · have h := br_n c8 h
    refine lv_aload_n hx hb dX11_here_11 rfl (lv_at hl 0 rfl) ?_
    refine gf_X11_9_M_0 X hP dX11_here_12 ?_
    refine lv_aload_n hx hb dX11_here_15 rfl (lv_at hl 0 rfl) ?_
    refine gf_X11_24_M_0 X hP dX11_here_16 ?_
    obtain ⟨hi19, h⟩ := gv_of h
    refine al_M_1 X hP hi19 dX11_here_19 ?_
    refine lv_sipush (v := 255) hx hb dX11_here_20 rfl ?_
    refine lv_iand hx hb dX11_here_23 ?_
    refine lv_goto (tgt := 28) hx hb dX11_here_24 rfl ?_
    exact ret h hP hS dX11_here_28
abbrev rm_X11_look : Room := { frames := 1, cells := 0, slots := 0, locals := 20 }
set_option maxRecDepth 100000 in
set_option maxHeartbeats 4000000 in
theorem c_X11_look {g : gT} {l : Launch} {A : Nat → Prop} {q : Nat → Nat} {m_thrown : Int32} {m_length : Int32} {m_at : Int32} {m_fault : Int32} {m_toldWords : Int32} {m_orders : Int32} {m_value : Int32} {m_hasUnit : Bool} {m_places : Int32} {m_clocks : Int32} {m_held : Bool} {m_x : Int64} {m_y : Int64} {m_z : Int64} {m_first : Int64} {m_second : Int64} {m_aside : Int32} {m_jobs : Int32} {m_jobsImage : Int32} {m_clocksImage : Int32} {m_heldImage : Bool} {m_hasImage : Bool} {m_tape : Nat → Int32} {m_read : Nat → Int32} {m_order : Nat → Int32} {m_width : Nat → Int32} {m_guard : Nat → Int32} {m_points : Nat → Int32} {m_stages : Nat → Int32} {m_gain : Nat → Int32} {m_undo : Nat → Int32} {m_near : Nat → Bool} {m_quarter : Nat → Int64} {m_ln : Nat → Int64} {m_angle : Nat → Int64} {m_shift : Nat → Int32} {m_digit : Nat → Int32} {m_refused : Nat → Int32} {m_job : Nat → Int32} {m_jobKept : Nat → Int32} {m_result : Nat → Int32} {m_resultKept : Nat → Int32} {m_trace : Nat → Int64} {m_traceKept : Nat → Int64} {m_jobImage : Nat → Int32} {m_resultImage : Nat → Int32} {m_traceImage : Nat → Int64}  {o : Int32 × Int32} (h : f_X11_look  m_length m_at m_tape = some o) : Std g l yX11_look (.code yX11_look cX11_look 1 (some .int) :: gw) rm_X11_look A [.ref (q 0)] (wM g q m_thrown m_length m_at m_fault m_toldWords m_orders m_value m_hasUnit m_places m_clocks m_held m_x m_y m_z m_first m_second m_aside m_jobs m_jobsImage m_clocksImage m_heldImage m_hasImage m_tape m_read m_order m_width m_guard m_points m_stages m_gain m_undo m_near m_quarter m_ln m_angle m_shift m_digit m_refused m_job m_jobKept m_result m_resultKept m_trace m_traceKept m_jobImage m_resultImage m_traceImage) (wM g q m_thrown m_length o.2 m_fault m_toldWords m_orders m_value m_hasUnit m_places m_clocks m_held m_x m_y m_z m_first m_second m_aside m_jobs m_jobsImage m_clocksImage m_heldImage m_hasImage m_tape m_read m_order m_width m_guard m_points m_stages m_gain m_undo m_near m_quarter m_ln m_angle m_shift m_digit m_refused m_job m_jobKept m_result m_resultKept m_trace m_traceKept m_jobImage m_resultImage m_traceImage) (some (.int o.1)) := by
  refine std_i (own := RX11) (by decide +kernel) rfl (Nat.le_of_ble_eq_true rfl) ?_
  intro p e s m args below meth c Q X ret H locs hP hS ls hl
  have hx := X.1
  have hb := X.2.1
  have hl : lv_has ls 1 [(0, .ref (q 0))] := hl
  have ret : ∀ {H : Heap} {locs : List Loc} {pc : Nat} {ls : Array Slot} {v : Int32} {m_at : Int32}, some (v, m_at) = some o → WP g A (wM g q m_thrown m_length m_at m_fault m_toldWords m_orders m_value m_hasUnit m_places m_clocks m_held m_x m_y m_z m_first m_second m_aside m_jobs m_jobsImage m_clocksImage m_heldImage m_hasImage m_tape m_read m_order m_width m_guard m_points m_stages m_gain m_undo m_near m_quarter m_ln m_angle m_shift m_digit m_refused m_job m_jobKept m_result m_resultKept m_trace m_traceKept m_jobImage m_resultImage m_traceImage) H → va_S A s.heap H locs → decode cX11_look pc = .ok (.ireturn, 1) → W p l e rm_X11_look s m args below meth c H locs 0 0 Q (F0 m pc ls [.int v]) := by
    intro H locs pc ls v m_at h hP hS hd
    cases h
    exact ret hP hS hd
  have l0 : ∀ (n : Nat), ∀ (m_at : Int32) (H : Heap) (locs : List Loc) (ls : Array Slot), f_X11_look_l0  m_length m_tape  n m_at = some o → WP g A (wM g q m_thrown m_length m_at m_fault m_toldWords m_orders m_value m_hasUnit m_places m_clocks m_held m_x m_y m_z m_first m_second m_aside m_jobs m_jobsImage m_clocksImage m_heldImage m_hasImage m_tape m_read m_order m_width m_guard m_points m_stages m_gain m_undo m_near m_quarter m_ln m_angle m_shift m_digit m_refused m_job m_jobKept m_result m_resultKept m_trace m_traceKept m_jobImage m_resultImage m_traceImage) H → va_S A s.heap H locs → lv_has ls 1 [(0, .ref (q 0))] → W p l e rm_X11_look s m args below meth c H locs 0 0 Q (F0 m 0 ls []) := by
    intro  n
    induction n with
    | zero =>
      intro m_at H locs ls h
      exact nz_of h
    | succ n ih =>
      intro m_at H locs ls h hP hS hl
      rw [f_X11_look_l0] at h
      refine lv_aload_n hx hb dX11_look_0 rfl (lv_at hl 0 rfl) ?_
      obtain ⟨o1, hco1, h⟩ := bd_of h
      refine kV (rest := []) X dX11_look_1 wd_5_118 mw_X11_here wd_5_120 wp_6_12 hP (k0 := 0) rfl rfl rfl hS (fun _ z => z) (c_X11_here hco1) rfl hl.1 rfl (Nat.le_of_ble_eq_true rfl) rfl rfl ⟨Nat.le_of_ble_eq_true rfl, Nat.le_of_ble_eq_true rfl⟩ (fun H locs hP _ _ hS => ?_)
      refine W.eq (g2 := F0 m 4 ls [.int o1]) rfl ?_
      refine lv_bipush (v := 32) hx hb dX11_look_4 rfl ?_
      refine lv_icmp_ne (tgt := 22) hx hb dX11_look_6 rfl (fun c6 => ?_) (fun c6 => ?_)
      · have h := br_n c6 h
        refine lv_aload_n hx hb dX11_look_22 rfl (lv_at hl 0 rfl) ?_
        obtain ⟨o2, hco2, h⟩ := bd_of h
        refine kV (rest := []) X dX11_look_23 wd_5_118 mw_X11_here wd_5_120 wp_6_12 hP (k0 := 0) rfl rfl rfl hS (fun _ z => z) (c_X11_here hco2) rfl hl.1 rfl (Nat.le_of_ble_eq_true rfl) rfl rfl ⟨Nat.le_of_ble_eq_true rfl, Nat.le_of_ble_eq_true rfl⟩ (fun H locs hP _ _ hS => ?_)
        refine W.eq (g2 := F0 m 26 ls [.int o2]) rfl ?_
        exact ret h hP hS dX11_look_26
      · have h := br_p c6 h
        refine lv_aload_n hx hb dX11_look_9 rfl (lv_at hl 0 rfl) ?_
        refine lv_dup hx hb dX11_look_10 rfl ?_
        refine gf_X11_24_M_0 X hP dX11_look_11 ?_
        refine lv_iconst (v := 1) hx hb dX11_look_14 rfl ?_
        refine lv_iadd hx hb dX11_look_15 ?_
        refine lv_topi (fun v3 ev3 => ?_)
        have h := lt_at ev3 h
        refine pf_X11_24_M_0 (v0 := v3) X hP hS dX11_look_16 (fun H locs hP hS => ?_)
        refine lv_goto (tgt := 0) hx hb dX11_look_19 rfl ?_
        exact ih v3 _ _ _ h hP hS (lv_sub hl [0] rfl)
  unfold f_X11_look at h
  exact l0  FU m_at _ _ _ h hP hS (lv_sub hl [0] rfl)
abbrev rm_X11_fails : Room := { frames := 0, cells := 0, slots := 0, locals := 0 }
set_option maxRecDepth 100000 in
set_option maxHeartbeats 4000000 in
theorem c_X11_fails {g : gT} {l : Launch} {A : Nat → Prop} {q : Nat → Nat} {m_thrown : Int32} {m_length : Int32} {m_at : Int32} {m_fault : Int32} {m_toldWords : Int32} {m_orders : Int32} {m_value : Int32} {m_hasUnit : Bool} {m_places : Int32} {m_clocks : Int32} {m_held : Bool} {m_x : Int64} {m_y : Int64} {m_z : Int64} {m_first : Int64} {m_second : Int64} {m_aside : Int32} {m_jobs : Int32} {m_jobsImage : Int32} {m_clocksImage : Int32} {m_heldImage : Bool} {m_hasImage : Bool} {m_tape : Nat → Int32} {m_read : Nat → Int32} {m_order : Nat → Int32} {m_width : Nat → Int32} {m_guard : Nat → Int32} {m_points : Nat → Int32} {m_stages : Nat → Int32} {m_gain : Nat → Int32} {m_undo : Nat → Int32} {m_near : Nat → Bool} {m_quarter : Nat → Int64} {m_ln : Nat → Int64} {m_angle : Nat → Int64} {m_shift : Nat → Int32} {m_digit : Nat → Int32} {m_refused : Nat → Int32} {m_job : Nat → Int32} {m_jobKept : Nat → Int32} {m_result : Nat → Int32} {m_resultKept : Nat → Int32} {m_trace : Nat → Int64} {m_traceKept : Nat → Int64} {m_jobImage : Nat → Int32} {m_resultImage : Nat → Int32} {m_traceImage : Nat → Int64} {p0 : Int32} {o : Int32} (h : f_X11_fails p0 m_fault = some o) : Std g l yX11_fails (.code yX11_fails cX11_fails 2 none :: gw) rm_X11_fails A [.ref (q 0), .int p0] (wM g q m_thrown m_length m_at m_fault m_toldWords m_orders m_value m_hasUnit m_places m_clocks m_held m_x m_y m_z m_first m_second m_aside m_jobs m_jobsImage m_clocksImage m_heldImage m_hasImage m_tape m_read m_order m_width m_guard m_points m_stages m_gain m_undo m_near m_quarter m_ln m_angle m_shift m_digit m_refused m_job m_jobKept m_result m_resultKept m_trace m_traceKept m_jobImage m_resultImage m_traceImage) (wM g q m_thrown m_length m_at o m_toldWords m_orders m_value m_hasUnit m_places m_clocks m_held m_x m_y m_z m_first m_second m_aside m_jobs m_jobsImage m_clocksImage m_heldImage m_hasImage m_tape m_read m_order m_width m_guard m_points m_stages m_gain m_undo m_near m_quarter m_ln m_angle m_shift m_digit m_refused m_job m_jobKept m_result m_resultKept m_trace m_traceKept m_jobImage m_resultImage m_traceImage) none := by
  refine std_v (own := RX11) (by decide +kernel) rfl (Nat.le_of_ble_eq_true rfl) ?_
  intro p e s m args below meth c Q X ret H locs hP hS ls hl
  have hx := X.1
  have hb := X.2.1
  have hl : lv_has ls 2 [(0, .ref (q 0)), (1, .int p0)] := hl
  have ret : ∀ {H : Heap} {locs : List Loc} {pc : Nat} {ls : Array Slot} {m_fault : Int32}, some (m_fault) = some o → WP g A (wM g q m_thrown m_length m_at m_fault m_toldWords m_orders m_value m_hasUnit m_places m_clocks m_held m_x m_y m_z m_first m_second m_aside m_jobs m_jobsImage m_clocksImage m_heldImage m_hasImage m_tape m_read m_order m_width m_guard m_points m_stages m_gain m_undo m_near m_quarter m_ln m_angle m_shift m_digit m_refused m_job m_jobKept m_result m_resultKept m_trace m_traceKept m_jobImage m_resultImage m_traceImage) H → va_S A s.heap H locs → decode cX11_fails pc = .ok (.return_, 1) → W p l e rm_X11_fails s m args below meth c H locs 0 0 Q (F0 m pc ls []) := by
    intro H locs pc ls m_fault h hP hS hd
    cases h
    exact ret hP hS hd
  unfold f_X11_fails at h
  refine lv_aload_n hx hb dX11_fails_0 rfl (lv_at hl 0 rfl) ?_
  refine gf_X11_31_M_0 X hP dX11_fails_1 ?_
  refine lv_iconst (v := (-1)) hx hb dX11_fails_4 rfl ?_
  refine lv_icmp_ne (tgt := 13) hx hb dX11_fails_5 rfl (fun c5 => ?_) (fun c5 => ?_)
  · have h := br_n c5 h
    exact ret h hP hS dX11_fails_13
  · have h := br_p c5 h
    refine lv_aload_n hx hb dX11_fails_8 rfl (lv_at hl 0 rfl) ?_
    refine lv_iload_n hx hb dX11_fails_9 rfl (lv_at hl 1 rfl) ?_
    refine pf_X11_31_M_0 (v0 := p0) X hP hS dX11_fails_10 (fun H locs hP hS => ?_)
    exact ret h hP hS dX11_fails_13
abbrev rm_X11_isDigit : Room := { frames := 0, cells := 0, slots := 0, locals := 0 }
set_option maxRecDepth 100000 in
set_option maxHeartbeats 4000000 in
theorem c_X11_isDigit {g : gT} {l : Launch} {A : Nat → Prop} {w : va_W} {p0 : Int32} {o : Bool} (h : f_X11_isDigit p0  = some o) : Std g l yX11_isDigit (.code yX11_isDigit cX11_isDigit 1 (some .boolean) :: gw) rm_X11_isDigit A [.int p0] w w (some (.int (bI o))) := by
  refine std_z (own := RX11) (by decide +kernel) rfl (Nat.le_of_ble_eq_true rfl) ?_
  intro p e s m args below meth c Q X ret H locs hP hS ls hl
  have hx := X.1
  have hb := X.2.1
  have hl : lv_has ls 1 [(0, .int p0)] := hl
  have ret : ∀ {H : Heap} {locs : List Loc} {pc : Nat} {ls : Array Slot} {v : Bool} , some (v) = some o → WP g A w H → va_S A s.heap H locs → decode cX11_isDigit pc = .ok (.ireturn, 1) → W p l e rm_X11_isDigit s m args below meth c H locs 0 0 Q (F0 m pc ls [.int (bI v)]) := by
    intro H locs pc ls v h hP hS hd
    cases h
    exact ret hP hS hd
  unfold f_X11_isDigit at h
  refine lv_iload_n hx hb dX11_isDigit_0 rfl (lv_at hl 0 rfl) ?_
  refine lv_bipush (v := 48) hx hb dX11_isDigit_1 rfl ?_
  refine jx1 h (P := fun (v1 : Bool) => ∀ ls : Array Slot, lv_has ls 1 [] → W p l e rm_X11_isDigit s m args below meth c H locs 0 0 Q (F0 m 17 ls [.int (bI v1)])) ?_ ?_
  · intro v1 h ls hl
    exact ret h hP hS dX11_isDigit_17
  · intro J h
    refine lv_icmp_lt (tgt := 16) hx hb dX11_isDigit_3 rfl (fun c3 => ?_) (fun c3 => ?_)
    · refine lv_iconst (v := 0) hx hb dX11_isDigit_16 rfl ?_
      exact J _ (lt_ip c3 h) ls (lv_sub hl [] rfl)
    · refine lv_iload_n hx hb dX11_isDigit_6 rfl (lv_at hl 0 rfl) ?_
      refine lv_bipush (v := 57) hx hb dX11_isDigit_7 rfl ?_
      refine lv_icmp_gt (tgt := 16) hx hb dX11_isDigit_9 rfl (fun c9 => ?_) (fun c9 => ?_)
      · refine lv_iconst (v := 0) hx hb dX11_isDigit_16 rfl ?_
        exact J _ (lt_ip c9 (lt_in c3 h)) ls (lv_sub hl [] rfl)
      · refine lv_iconst (v := 1) hx hb dX11_isDigit_12 rfl ?_
        refine lv_goto (tgt := 17) hx hb dX11_isDigit_13 rfl ?_
        exact J _ (lt_in c9 (lt_in c3 h)) ls (lv_sub hl [] rfl)
abbrev rm_X11_wordEnd : Room := { frames := 0, cells := 0, slots := 0, locals := 0 }
set_option maxRecDepth 100000 in
set_option maxHeartbeats 4000000 in
theorem c_X11_wordEnd {g : gT} {l : Launch} {A : Nat → Prop} {q : Nat → Nat} {m_thrown : Int32} {m_length : Int32} {m_at : Int32} {m_fault : Int32} {m_toldWords : Int32} {m_orders : Int32} {m_value : Int32} {m_hasUnit : Bool} {m_places : Int32} {m_clocks : Int32} {m_held : Bool} {m_x : Int64} {m_y : Int64} {m_z : Int64} {m_first : Int64} {m_second : Int64} {m_aside : Int32} {m_jobs : Int32} {m_jobsImage : Int32} {m_clocksImage : Int32} {m_heldImage : Bool} {m_hasImage : Bool} {m_tape : Nat → Int32} {m_read : Nat → Int32} {m_order : Nat → Int32} {m_width : Nat → Int32} {m_guard : Nat → Int32} {m_points : Nat → Int32} {m_stages : Nat → Int32} {m_gain : Nat → Int32} {m_undo : Nat → Int32} {m_near : Nat → Bool} {m_quarter : Nat → Int64} {m_ln : Nat → Int64} {m_angle : Nat → Int64} {m_shift : Nat → Int32} {m_digit : Nat → Int32} {m_refused : Nat → Int32} {m_job : Nat → Int32} {m_jobKept : Nat → Int32} {m_result : Nat → Int32} {m_resultKept : Nat → Int32} {m_trace : Nat → Int64} {m_traceKept : Nat → Int64} {m_jobImage : Nat → Int32} {m_resultImage : Nat → Int32} {m_traceImage : Nat → Int64}  {o : Int32} (h : f_X11_wordEnd  m_length m_at m_tape = some o) : Std g l yX11_wordEnd (.code yX11_wordEnd cX11_wordEnd 2 (some .int) :: gw) rm_X11_wordEnd A [.ref (q 0)] (wM g q m_thrown m_length m_at m_fault m_toldWords m_orders m_value m_hasUnit m_places m_clocks m_held m_x m_y m_z m_first m_second m_aside m_jobs m_jobsImage m_clocksImage m_heldImage m_hasImage m_tape m_read m_order m_width m_guard m_points m_stages m_gain m_undo m_near m_quarter m_ln m_angle m_shift m_digit m_refused m_job m_jobKept m_result m_resultKept m_trace m_traceKept m_jobImage m_resultImage m_traceImage) (wM g q m_thrown m_length m_at m_fault m_toldWords m_orders m_value m_hasUnit m_places m_clocks m_held m_x m_y m_z m_first m_second m_aside m_jobs m_jobsImage m_clocksImage m_heldImage m_hasImage m_tape m_read m_order m_width m_guard m_points m_stages m_gain m_undo m_near m_quarter m_ln m_angle m_shift m_digit m_refused m_job m_jobKept m_result m_resultKept m_trace m_traceKept m_jobImage m_resultImage m_traceImage) (some (.int o)) := by
  refine std_i (own := RX11) (by decide +kernel) rfl (Nat.le_of_ble_eq_true rfl) ?_
  intro p e s m args below meth c Q X ret H locs hP hS ls hl
  have hx := X.1
  have hb := X.2.1
  have hl : lv_has ls 2 [(0, .ref (q 0))] := hl
  have ret : ∀ {H : Heap} {locs : List Loc} {pc : Nat} {ls : Array Slot} {v : Int32} , some (v) = some o → WP g A (wM g q m_thrown m_length m_at m_fault m_toldWords m_orders m_value m_hasUnit m_places m_clocks m_held m_x m_y m_z m_first m_second m_aside m_jobs m_jobsImage m_clocksImage m_heldImage m_hasImage m_tape m_read m_order m_width m_guard m_points m_stages m_gain m_undo m_near m_quarter m_ln m_angle m_shift m_digit m_refused m_job m_jobKept m_result m_resultKept m_trace m_traceKept m_jobImage m_resultImage m_traceImage) H → va_S A s.heap H locs → decode cX11_wordEnd pc = .ok (.ireturn, 1) → W p l e rm_X11_wordEnd s m args below meth c H locs 0 0 Q (F0 m pc ls [.int v]) := by
    intro H locs pc ls v h hP hS hd
    cases h
    exact ret hP hS hd
  have b41 : ∀ (x1 : Int32) (H : Heap) (locs : List Loc) (ls : Array Slot), f_X11_wordEnd_b41  m_length m_at m_tape  x1 = some o → WP g A (wM g q m_thrown m_length m_at m_fault m_toldWords m_orders m_value m_hasUnit m_places m_clocks m_held m_x m_y m_z m_first m_second m_aside m_jobs m_jobsImage m_clocksImage m_heldImage m_hasImage m_tape m_read m_order m_width m_guard m_points m_stages m_gain m_undo m_near m_quarter m_ln m_angle m_shift m_digit m_refused m_job m_jobKept m_result m_resultKept m_trace m_traceKept m_jobImage m_resultImage m_traceImage) H → va_S A s.heap H locs → lv_has ls 2 [(1, .int x1)] → W p l e rm_X11_wordEnd s m args below meth c H locs 0 0 Q (F0 m 41 ls []) := by
    intro  x1 H locs ls h hP hS hl
    unfold f_X11_wordEnd_b41 at h
    refine lv_iload_n hx hb dX11_wordEnd_41 rfl (lv_at hl 0 rfl) ?_
    exact ret h hP hS dX11_wordEnd_42
  have l5 : ∀ (n : Nat), ∀ (x1 : Int32) (H : Heap) (locs : List Loc) (ls : Array Slot), f_X11_wordEnd_l5  m_length m_at m_tape  n x1 = some o → WP g A (wM g q m_thrown m_length m_at m_fault m_toldWords m_orders m_value m_hasUnit m_places m_clocks m_held m_x m_y m_z m_first m_second m_aside m_jobs m_jobsImage m_clocksImage m_heldImage m_hasImage m_tape m_read m_order m_width m_guard m_points m_stages m_gain m_undo m_near m_quarter m_ln m_angle m_shift m_digit m_refused m_job m_jobKept m_result m_resultKept m_trace m_traceKept m_jobImage m_resultImage m_traceImage) H → va_S A s.heap H locs → lv_has ls 2 [(0, .ref (q 0)), (1, .int x1)] → W p l e rm_X11_wordEnd s m args below meth c H locs 0 0 Q (F0 m 5 ls []) := by
    intro  n
    induction n with
    | zero =>
      intro x1 H locs ls h
      exact nz_of h
    | succ n ih =>
      intro x1 H locs ls h hP hS hl
      rw [f_X11_wordEnd_l5] at h
      refine lv_iload_n hx hb dX11_wordEnd_5 rfl (lv_at hl 1 rfl) ?_
      refine lv_aload_n hx hb dX11_wordEnd_6 rfl (lv_at hl 0 rfl) ?_
      refine gf_X11_13_M_0 X hP dX11_wordEnd_7 ?_
      refine lv_icmp_ge (tgt := 41) hx hb dX11_wordEnd_10 rfl (fun c10 => ?_) (fun c10 => ?_)
      · have h := br_p c10 h
        exact b41   x1 _ _ _ h hP hS (lv_sub hl [1] rfl)
      · have h := br_n c10 h
        refine lv_aload_n hx hb dX11_wordEnd_13 rfl (lv_at hl 0 rfl) ?_
        refine gf_X11_9_M_0 X hP dX11_wordEnd_14 ?_
        refine lv_iload_n hx hb dX11_wordEnd_17 rfl (lv_at hl 1 rfl) ?_
        obtain ⟨hi18, h⟩ := gv_of h
        refine al_M_1 X hP hi18 dX11_wordEnd_18 ?_
        refine lv_bipush (v := 97) hx hb dX11_wordEnd_19 rfl ?_
        refine lv_icmp_lt (tgt := 41) hx hb dX11_wordEnd_21 rfl (fun c21 => ?_) (fun c21 => ?_)
        · have h := br_p c21 h
          exact b41   x1 _ _ _ h hP hS (lv_sub hl [1] rfl)
        · have h := br_n c21 h
          refine lv_aload_n hx hb dX11_wordEnd_24 rfl (lv_at hl 0 rfl) ?_
          refine gf_X11_9_M_0 X hP dX11_wordEnd_25 ?_
          refine lv_iload_n hx hb dX11_wordEnd_28 rfl (lv_at hl 1 rfl) ?_
          obtain ⟨hi29, h⟩ := gv_of h
          refine al_M_1 X hP hi29 dX11_wordEnd_29 ?_
          refine lv_bipush (v := 122) hx hb dX11_wordEnd_30 rfl ?_
          refine lv_icmp_gt (tgt := 41) hx hb dX11_wordEnd_32 rfl (fun c32 => ?_) (fun c32 => ?_)
          · have h := br_p c32 h
            exact b41   x1 _ _ _ h hP hS (lv_sub hl [1] rfl)
          · have h := br_n c32 h
            obtain ⟨v1, ev1⟩ : ∃ z : Int32, z = (x1 + 1) := ⟨_, rfl⟩
            have h := lt_at ev1 h
            refine lv_iinc (v := v1) (lv' := [(1, .int v1), (0, .ref (q 0))]) hx hb dX11_wordEnd_35 hl (k := 1) rfl (by rw [ev1]; rfl) (by decide) rfl (fun ls hl => ?_)
            refine lv_goto (tgt := 5) hx hb dX11_wordEnd_38 rfl ?_
            exact ih v1 _ _ _ h hP hS (lv_sub hl [1, 0] rfl)
  unfold f_X11_wordEnd at h
  refine lv_aload_n hx hb dX11_wordEnd_0 rfl (lv_at hl 0 rfl) ?_
  refine gf_X11_24_M_0 X hP dX11_wordEnd_1 ?_
  refine lv_istore_n (lv' := [(1, .int m_at), (0, .ref (q 0))]) hx hb dX11_wordEnd_4 rfl hl (by decide) rfl (fun ls hl => ?_)
  exact l5  FU m_at _ _ _ h hP hS (lv_sub hl [1, 0] rfl)
abbrev rm_X11_isWord : Room := { frames := 4, cells := 0, slots := 0, locals := 90 }
set_option maxRecDepth 100000 in
set_option maxHeartbeats 4000000 in
theorem c_X11_isWord {g : gT} {l : Launch} {A : Nat → Prop} {q : Nat → Nat} {m_thrown : Int32} {m_length : Int32} {m_at : Int32} {m_fault : Int32} {m_toldWords : Int32} {m_orders : Int32} {m_value : Int32} {m_hasUnit : Bool} {m_places : Int32} {m_clocks : Int32} {m_held : Bool} {m_x : Int64} {m_y : Int64} {m_z : Int64} {m_first : Int64} {m_second : Int64} {m_aside : Int32} {m_jobs : Int32} {m_jobsImage : Int32} {m_clocksImage : Int32} {m_heldImage : Bool} {m_hasImage : Bool} {m_tape : Nat → Int32} {m_read : Nat → Int32} {m_order : Nat → Int32} {m_width : Nat → Int32} {m_guard : Nat → Int32} {m_points : Nat → Int32} {m_stages : Nat → Int32} {m_gain : Nat → Int32} {m_undo : Nat → Int32} {m_near : Nat → Bool} {m_quarter : Nat → Int64} {m_ln : Nat → Int64} {m_angle : Nat → Int64} {m_shift : Nat → Int32} {m_digit : Nat → Int32} {m_refused : Nat → Int32} {m_job : Nat → Int32} {m_jobKept : Nat → Int32} {m_result : Nat → Int32} {m_resultKept : Nat → Int32} {m_trace : Nat → Int64} {m_traceKept : Nat → Int64} {m_jobImage : Nat → Int32} {m_resultImage : Nat → Int32} {m_traceImage : Nat → Int64} {si : Nat} {p1 : Int32} {o : Bool} (hsi : si < 31) (h : f_X11_isWord si p1 m_at m_tape = some o) : Std g l yX11_isWord (.code yX11_isWord cX11_isWord 4 (some .boolean) :: gw) rm_X11_isWord A [.ref (q 0), .ref (g.2 (60 + si)), .int p1] (wM g q m_thrown m_length m_at m_fault m_toldWords m_orders m_value m_hasUnit m_places m_clocks m_held m_x m_y m_z m_first m_second m_aside m_jobs m_jobsImage m_clocksImage m_heldImage m_hasImage m_tape m_read m_order m_width m_guard m_points m_stages m_gain m_undo m_near m_quarter m_ln m_angle m_shift m_digit m_refused m_job m_jobKept m_result m_resultKept m_trace m_traceKept m_jobImage m_resultImage m_traceImage) (wM g q m_thrown m_length m_at m_fault m_toldWords m_orders m_value m_hasUnit m_places m_clocks m_held m_x m_y m_z m_first m_second m_aside m_jobs m_jobsImage m_clocksImage m_heldImage m_hasImage m_tape m_read m_order m_width m_guard m_points m_stages m_gain m_undo m_near m_quarter m_ln m_angle m_shift m_digit m_refused m_job m_jobKept m_result m_resultKept m_trace m_traceKept m_jobImage m_resultImage m_traceImage) (some (.int (bI o))) := by
  refine std_z (own := RX11) (by decide +kernel) rfl (Nat.le_of_ble_eq_true rfl) ?_
  intro p e s m args below meth c Q X ret H locs hP hS ls hl
  have hx := X.1
  have hb := X.2.1
  have hl : lv_has ls 4 [(0, .ref (q 0)), (1, .ref (g.2 (60 + si))), (2, .int p1)] := hl
  have ret : ∀ {H : Heap} {locs : List Loc} {pc : Nat} {ls : Array Slot} {v : Bool} , some (v) = some o → WP g A (wM g q m_thrown m_length m_at m_fault m_toldWords m_orders m_value m_hasUnit m_places m_clocks m_held m_x m_y m_z m_first m_second m_aside m_jobs m_jobsImage m_clocksImage m_heldImage m_hasImage m_tape m_read m_order m_width m_guard m_points m_stages m_gain m_undo m_near m_quarter m_ln m_angle m_shift m_digit m_refused m_job m_jobKept m_result m_resultKept m_trace m_traceKept m_jobImage m_resultImage m_traceImage) H → va_S A s.heap H locs → decode cX11_isWord pc = .ok (.ireturn, 1) → W p l e rm_X11_isWord s m args below meth c H locs 0 0 Q (F0 m pc ls [.int (bI v)]) := by
    intro H locs pc ls v h hP hS hd
    cases h
    exact ret hP hS hd
  have l17 : ∀ (n : Nat), ∀ (x3 : Int32) (H : Heap) (locs : List Loc) (ls : Array Slot), f_X11_isWord_l17 si m_at m_tape  n x3 = some o → WP g A (wM g q m_thrown m_length m_at m_fault m_toldWords m_orders m_value m_hasUnit m_places m_clocks m_held m_x m_y m_z m_first m_second m_aside m_jobs m_jobsImage m_clocksImage m_heldImage m_hasImage m_tape m_read m_order m_width m_guard m_points m_stages m_gain m_undo m_near m_quarter m_ln m_angle m_shift m_digit m_refused m_job m_jobKept m_result m_resultKept m_trace m_traceKept m_jobImage m_resultImage m_traceImage) H → va_S A s.heap H locs → lv_has ls 4 [(0, .ref (q 0)), (1, .ref (g.2 (60 + si))), (3, .int x3)] → W p l e rm_X11_isWord s m args below meth c H locs 0 0 Q (F0 m 17 ls []) := by
    intro  n
    induction n with
    | zero =>
      intro x3 H locs ls h
      exact nz_of h
    | succ n ih =>
      intro x3 H locs ls h hP hS hl
      rw [f_X11_isWord_l17] at h
      refine lv_iload_n hx hb dX11_isWord_17 rfl (lv_at hl 2 rfl) ?_
      refine lv_aload_n hx hb dX11_isWord_18 rfl (lv_at hl 1 rfl) ?_
      refine str_len (rest := [.int x3]) X hP hl.1 hS hsi wd_5_135 (Nat.le_of_ble_eq_true rfl) (Nat.le_of_ble_eq_true rfl) (Nat.le_of_ble_eq_true rfl) dX11_isWord_19 (fun H locs hP hS => ?_)
      refine W.eq (g2 := F0 m 22 ls [.int (Int32.ofNat (sL si)), .int x3]) rfl ?_
      refine lv_icmp_ge (tgt := 52) hx hb dX11_isWord_22 rfl (fun c22 => ?_) (fun c22 => ?_)
      · have h := br_p c22 h
        refine lv_iconst (v := 1) hx hb dX11_isWord_52 rfl ?_
        exact ret h hP hS dX11_isWord_53
      · have h := br_n c22 h
        refine lv_aload_n hx hb dX11_isWord_25 rfl (lv_at hl 0 rfl) ?_
        refine gf_X11_9_M_0 X hP dX11_isWord_26 ?_
        refine lv_aload_n hx hb dX11_isWord_29 rfl (lv_at hl 0 rfl) ?_
        refine gf_X11_24_M_0 X hP dX11_isWord_30 ?_
        refine lv_iload_n hx hb dX11_isWord_33 rfl (lv_at hl 2 rfl) ?_
        refine lv_iadd hx hb dX11_isWord_34 ?_
        obtain ⟨hi35, h⟩ := gv_of h
        refine al_M_1 X hP hi35 dX11_isWord_35 ?_
        refine lv_aload_n hx hb dX11_isWord_36 rfl (lv_at hl 1 rfl) ?_
        refine lv_iload_n hx hb dX11_isWord_37 rfl (lv_at hl 2 rfl) ?_
        obtain ⟨hi38, h⟩ := gv_of h
        refine str_chr (rest := [.int (m_tape ((m_at + x3)).toNatClampNeg)]) X hP hl.1 hS hsi hi38 wd_5_136 (Nat.le_of_ble_eq_true rfl) (Nat.le_of_ble_eq_true rfl) (Nat.le_of_ble_eq_true rfl) dX11_isWord_38 (fun H locs hP hS => ?_)
        refine W.eq (g2 := F0 m 41 ls [.int (sCh si (x3).toNatClampNeg), .int (m_tape ((m_at + x3)).toNatClampNeg)]) rfl ?_
        refine lv_icmp_eq (tgt := 46) hx hb dX11_isWord_41 rfl (fun c41 => ?_) (fun c41 => ?_)
        · have h := br_p c41 h
          obtain ⟨v1, ev1⟩ : ∃ z : Int32, z = (x3 + 1) := ⟨_, rfl⟩
          have h := lt_at ev1 h
          refine lv_iinc (v := v1) (lv' := [(3, .int v1), (0, .ref (q 0)), (1, .ref (g.2 (60 + si)))]) hx hb dX11_isWord_46 hl (k := 2) rfl (by rw [ev1]; rfl) (by decide) rfl (fun ls hl => ?_)
          refine lv_goto (tgt := 17) hx hb dX11_isWord_49 rfl ?_
          exact ih v1 _ _ _ h hP hS (lv_sub hl [1, 2, 0] rfl)
        · have h := br_n c41 h
          refine lv_iconst (v := 0) hx hb dX11_isWord_44 rfl ?_
          exact ret h hP hS dX11_isWord_45
  unfold f_X11_isWord at h
  refine lv_iload_n hx hb dX11_isWord_0 rfl (lv_at hl 2 rfl) ?_
  refine lv_aload_n hx hb dX11_isWord_1 rfl (lv_at hl 0 rfl) ?_
  refine gf_X11_24_M_0 X hP dX11_isWord_2 ?_
  refine lv_isub hx hb dX11_isWord_5 ?_
  refine lv_aload_n hx hb dX11_isWord_6 rfl (lv_at hl 1 rfl) ?_
  refine str_len (rest := [.int (p1 - m_at)]) X hP hl.1 hS hsi wd_5_135 (Nat.le_of_ble_eq_true rfl) (Nat.le_of_ble_eq_true rfl) (Nat.le_of_ble_eq_true rfl) dX11_isWord_7 (fun H locs hP hS => ?_)
  refine W.eq (g2 := F0 m 10 ls [.int (Int32.ofNat (sL si)), .int (p1 - m_at)]) rfl ?_
  refine lv_icmp_eq (tgt := 15) hx hb dX11_isWord_10 rfl (fun c10 => ?_) (fun c10 => ?_)
  · have h := br_p c10 h
    refine lv_iconst (v := 0) hx hb dX11_isWord_15 rfl ?_
    refine lv_istore_n (lv' := [(3, .int 0), (0, .ref (q 0)), (1, .ref (g.2 (60 + si))), (2, .int p1)]) hx hb dX11_isWord_16 rfl hl (by decide) rfl (fun ls hl => ?_)
    exact l17  FU (0 : Int32) _ _ _ h hP hS (lv_sub hl [1, 2, 0] rfl)
  · have h := br_n c10 h
    refine lv_iconst (v := 0) hx hb dX11_isWord_13 rfl ?_
    exact ret h hP hS dX11_isWord_14
abbrev rm_X11_wordHere : Room := { frames := 5, cells := 0, slots := 0, locals := 113 }
set_option maxRecDepth 100000 in
set_option maxHeartbeats 4000000 in
theorem c_X11_wordHere {g : gT} {l : Launch} {A : Nat → Prop} {q : Nat → Nat} {m_thrown : Int32} {m_length : Int32} {m_at : Int32} {m_fault : Int32} {m_toldWords : Int32} {m_orders : Int32} {m_value : Int32} {m_hasUnit : Bool} {m_places : Int32} {m_clocks : Int32} {m_held : Bool} {m_x : Int64} {m_y : Int64} {m_z : Int64} {m_first : Int64} {m_second : Int64} {m_aside : Int32} {m_jobs : Int32} {m_jobsImage : Int32} {m_clocksImage : Int32} {m_heldImage : Bool} {m_hasImage : Bool} {m_tape : Nat → Int32} {m_read : Nat → Int32} {m_order : Nat → Int32} {m_width : Nat → Int32} {m_guard : Nat → Int32} {m_points : Nat → Int32} {m_stages : Nat → Int32} {m_gain : Nat → Int32} {m_undo : Nat → Int32} {m_near : Nat → Bool} {m_quarter : Nat → Int64} {m_ln : Nat → Int64} {m_angle : Nat → Int64} {m_shift : Nat → Int32} {m_digit : Nat → Int32} {m_refused : Nat → Int32} {m_job : Nat → Int32} {m_jobKept : Nat → Int32} {m_result : Nat → Int32} {m_resultKept : Nat → Int32} {m_trace : Nat → Int64} {m_traceKept : Nat → Int64} {m_jobImage : Nat → Int32} {m_resultImage : Nat → Int32} {m_traceImage : Nat → Int64} {p0 : Int32} {o : Int32} (h : f_X11_wordHere p0 m_at m_tape = some o) : Std g l yX11_wordHere (.code yX11_wordHere cX11_wordHere 2 (some .int) :: gw) rm_X11_wordHere A [.ref (q 0), .int p0] (wM g q m_thrown m_length m_at m_fault m_toldWords m_orders m_value m_hasUnit m_places m_clocks m_held m_x m_y m_z m_first m_second m_aside m_jobs m_jobsImage m_clocksImage m_heldImage m_hasImage m_tape m_read m_order m_width m_guard m_points m_stages m_gain m_undo m_near m_quarter m_ln m_angle m_shift m_digit m_refused m_job m_jobKept m_result m_resultKept m_trace m_traceKept m_jobImage m_resultImage m_traceImage) (wM g q m_thrown m_length m_at m_fault m_toldWords m_orders m_value m_hasUnit m_places m_clocks m_held m_x m_y m_z m_first m_second m_aside m_jobs m_jobsImage m_clocksImage m_heldImage m_hasImage m_tape m_read m_order m_width m_guard m_points m_stages m_gain m_undo m_near m_quarter m_ln m_angle m_shift m_digit m_refused m_job m_jobKept m_result m_resultKept m_trace m_traceKept m_jobImage m_resultImage m_traceImage) (some (.int o)) := by
  refine std_i (own := RX11) (by decide +kernel) rfl (Nat.le_of_ble_eq_true rfl) ?_
  intro p e s m args below meth c Q X ret H locs hP hS ls hl
  have hx := X.1
  have hb := X.2.1
  have hl : lv_has ls 2 [(0, .ref (q 0)), (1, .int p0)] := hl
  have ret : ∀ {H : Heap} {locs : List Loc} {pc : Nat} {ls : Array Slot} {v : Int32} , some (v) = some o → WP g A (wM g q m_thrown m_length m_at m_fault m_toldWords m_orders m_value m_hasUnit m_places m_clocks m_held m_x m_y m_z m_first m_second m_aside m_jobs m_jobsImage m_clocksImage m_heldImage m_hasImage m_tape m_read m_order m_width m_guard m_points m_stages m_gain m_undo m_near m_quarter m_ln m_angle m_shift m_digit m_refused m_job m_jobKept m_result m_resultKept m_trace m_traceKept m_jobImage m_resultImage m_traceImage) H → va_S A s.heap H locs → decode cX11_wordHere pc = .ok (.ireturn, 1) → W p l e rm_X11_wordHere s m args below meth c H locs 0 0 Q (F0 m pc ls [.int v]) := by
    intro H locs pc ls v h hP hS hd
    cases h
    exact ret hP hS hd
  unfold f_X11_wordHere at h
  refine lv_aload_n hx hb dX11_wordHere_0 rfl (lv_at hl 0 rfl) ?_
  refine ldS X ((sfX X).2.2.2.2.2.2.2.2.2.2.2.2.2.2.2.1 0 _ rfl) dX11_wordHere_1 ?_
  refine lv_iload_n hx hb dX11_wordHere_3 rfl (lv_at hl 1 rfl) ?_
  obtain ⟨o1, hco1, h⟩ := bd_of h
  refine kV (rest := []) X dX11_wordHere_4 wd_5_131 mw_X11_isWord wd_5_133 wp_6_15 hP (k0 := 0) rfl rfl rfl hS (fun _ z => z) (c_X11_isWord (Nat.le_of_ble_eq_true rfl) hco1) rfl hl.1 rfl (Nat.le_of_ble_eq_true rfl) rfl rfl ⟨Nat.le_of_ble_eq_true rfl, Nat.le_of_ble_eq_true rfl⟩ (fun H locs hP _ _ hS => ?_)
  refine W.eq (g2 := F0 m 7 ls [.int (bI o1)]) rfl ?_
  refine rb_eq (tgt := 12) hx hb dX11_wordHere_7 rfl (fun c7 => ?_) (fun c7 => ?_)
  · have h := br_n c7 h
    refine lv_aload_n hx hb dX11_wordHere_12 rfl (lv_at hl 0 rfl) ?_
    refine ldS X ((sfX X).2.2.2.2.2.2.2.2.2.2.2.2.2.2.2.1 1 _ rfl) dX11_wordHere_13 ?_
    refine lv_iload_n hx hb dX11_wordHere_15 rfl (lv_at hl 1 rfl) ?_
    obtain ⟨o2, hco2, h⟩ := bd_of h
    refine kV (rest := []) X dX11_wordHere_16 wd_5_131 mw_X11_isWord wd_5_133 wp_6_15 hP (k0 := 0) rfl rfl rfl hS (fun _ z => z) (c_X11_isWord (Nat.le_of_ble_eq_true rfl) hco2) rfl hl.1 rfl (Nat.le_of_ble_eq_true rfl) rfl rfl ⟨Nat.le_of_ble_eq_true rfl, Nat.le_of_ble_eq_true rfl⟩ (fun H locs hP _ _ hS => ?_)
    refine W.eq (g2 := F0 m 19 ls [.int (bI o2)]) rfl ?_
    refine rb_eq (tgt := 24) hx hb dX11_wordHere_19 rfl (fun c19 => ?_) (fun c19 => ?_)
    · have h := br_n c19 h
      refine lv_aload_n hx hb dX11_wordHere_24 rfl (lv_at hl 0 rfl) ?_
      refine ldS X ((sfX X).2.2.2.2.2.2.2.2.2.2.2.2.2.2.2.1 2 _ rfl) dX11_wordHere_25 ?_
      refine lv_iload_n hx hb dX11_wordHere_27 rfl (lv_at hl 1 rfl) ?_
      obtain ⟨o3, hco3, h⟩ := bd_of h
      refine kV (rest := []) X dX11_wordHere_28 wd_5_131 mw_X11_isWord wd_5_133 wp_6_15 hP (k0 := 0) rfl rfl rfl hS (fun _ z => z) (c_X11_isWord (Nat.le_of_ble_eq_true rfl) hco3) rfl hl.1 rfl (Nat.le_of_ble_eq_true rfl) rfl rfl ⟨Nat.le_of_ble_eq_true rfl, Nat.le_of_ble_eq_true rfl⟩ (fun H locs hP _ _ hS => ?_)
      refine W.eq (g2 := F0 m 31 ls [.int (bI o3)]) rfl ?_
      refine rb_eq (tgt := 36) hx hb dX11_wordHere_31 rfl (fun c31 => ?_) (fun c31 => ?_)
      · have h := br_n c31 h
        refine lv_aload_n hx hb dX11_wordHere_36 rfl (lv_at hl 0 rfl) ?_
        refine ldS X ((sfX X).2.2.2.2.2.2.2.2.2.2.2.2.2.2.2.1 3 _ rfl) dX11_wordHere_37 ?_
        refine lv_iload_n hx hb dX11_wordHere_39 rfl (lv_at hl 1 rfl) ?_
        obtain ⟨o4, hco4, h⟩ := bd_of h
        refine kV (rest := []) X dX11_wordHere_40 wd_5_131 mw_X11_isWord wd_5_133 wp_6_15 hP (k0 := 0) rfl rfl rfl hS (fun _ z => z) (c_X11_isWord (Nat.le_of_ble_eq_true rfl) hco4) rfl hl.1 rfl (Nat.le_of_ble_eq_true rfl) rfl rfl ⟨Nat.le_of_ble_eq_true rfl, Nat.le_of_ble_eq_true rfl⟩ (fun H locs hP _ _ hS => ?_)
        refine W.eq (g2 := F0 m 43 ls [.int (bI o4)]) rfl ?_
        refine rb_eq (tgt := 48) hx hb dX11_wordHere_43 rfl (fun c43 => ?_) (fun c43 => ?_)
        · have h := br_n c43 h
          refine lv_aload_n hx hb dX11_wordHere_48 rfl (lv_at hl 0 rfl) ?_
          refine ldS X ((sfX X).2.2.2.2.2.2.2.2.2.2.2.2.2.2.2.1 4 _ rfl) dX11_wordHere_49 ?_
          refine lv_iload_n hx hb dX11_wordHere_51 rfl (lv_at hl 1 rfl) ?_
          obtain ⟨o5, hco5, h⟩ := bd_of h
          refine kV (rest := []) X dX11_wordHere_52 wd_5_131 mw_X11_isWord wd_5_133 wp_6_15 hP (k0 := 0) rfl rfl rfl hS (fun _ z => z) (c_X11_isWord (Nat.le_of_ble_eq_true rfl) hco5) rfl hl.1 rfl (Nat.le_of_ble_eq_true rfl) rfl rfl ⟨Nat.le_of_ble_eq_true rfl, Nat.le_of_ble_eq_true rfl⟩ (fun H locs hP _ _ hS => ?_)
          refine W.eq (g2 := F0 m 55 ls [.int (bI o5)]) rfl ?_
          refine rb_eq (tgt := 60) hx hb dX11_wordHere_55 rfl (fun c55 => ?_) (fun c55 => ?_)
          · have h := br_n c55 h
            refine lv_aload_n hx hb dX11_wordHere_60 rfl (lv_at hl 0 rfl) ?_
            refine ldS X ((sfX X).2.2.2.2.2.2.2.2.2.2.2.2.2.2.2.1 5 _ rfl) dX11_wordHere_61 ?_
            refine lv_iload_n hx hb dX11_wordHere_63 rfl (lv_at hl 1 rfl) ?_
            obtain ⟨o6, hco6, h⟩ := bd_of h
            refine kV (rest := []) X dX11_wordHere_64 wd_5_131 mw_X11_isWord wd_5_133 wp_6_15 hP (k0 := 0) rfl rfl rfl hS (fun _ z => z) (c_X11_isWord (Nat.le_of_ble_eq_true rfl) hco6) rfl hl.1 rfl (Nat.le_of_ble_eq_true rfl) rfl rfl ⟨Nat.le_of_ble_eq_true rfl, Nat.le_of_ble_eq_true rfl⟩ (fun H locs hP _ _ hS => ?_)
            refine W.eq (g2 := F0 m 67 ls [.int (bI o6)]) rfl ?_
            refine jx1 h (P := fun (v7 : Int32) => ∀ ls : Array Slot, lv_has ls 2 [] → W p l e rm_X11_wordHere s m args below meth c H locs 0 0 Q (F0 m 75 ls [.int v7])) ?_ ?_
            · intro v7 h ls hl
              exact ret h hP hS dX11_wordHere_75
            · intro J h
              refine rb_eq (tgt := 74) hx hb dX11_wordHere_67 rfl (fun c67 => ?_) (fun c67 => ?_)
              · refine lv_iconst (v := (-1)) hx hb dX11_wordHere_74 rfl ?_
                exact J _ (lt_in c67 h) ls (lv_sub hl [] rfl)
              · refine lv_iconst (v := 5) hx hb dX11_wordHere_70 rfl ?_
                refine lv_goto (tgt := 75) hx hb dX11_wordHere_71 rfl ?_
                exact J _ (lt_ip c67 h) ls (lv_sub hl [] rfl)
          · have h := br_p c55 h
            refine lv_iconst (v := 4) hx hb dX11_wordHere_58 rfl ?_
            exact ret h hP hS dX11_wordHere_59
        · have h := br_p c43 h
          refine lv_iconst (v := 3) hx hb dX11_wordHere_46 rfl ?_
          exact ret h hP hS dX11_wordHere_47
      · have h := br_p c31 h
        refine lv_iconst (v := 2) hx hb dX11_wordHere_34 rfl ?_
        exact ret h hP hS dX11_wordHere_35
    · have h := br_p c19 h
      refine lv_iconst (v := 1) hx hb dX11_wordHere_22 rfl ?_
      exact ret h hP hS dX11_wordHere_23
  · have h := br_p c7 h
    refine lv_iconst (v := 0) hx hb dX11_wordHere_10 rfl ?_
    exact ret h hP hS dX11_wordHere_11
abbrev rm_X11_number : Room := { frames := 2, cells := 0, slots := 0, locals := 40 }
set_option maxRecDepth 100000 in
set_option maxHeartbeats 4000000 in
theorem c_X11_number {g : gT} {l : Launch} {A : Nat → Prop} {q : Nat → Nat} {m_thrown : Int32} {m_length : Int32} {m_at : Int32} {m_fault : Int32} {m_toldWords : Int32} {m_orders : Int32} {m_value : Int32} {m_hasUnit : Bool} {m_places : Int32} {m_clocks : Int32} {m_held : Bool} {m_x : Int64} {m_y : Int64} {m_z : Int64} {m_first : Int64} {m_second : Int64} {m_aside : Int32} {m_jobs : Int32} {m_jobsImage : Int32} {m_clocksImage : Int32} {m_heldImage : Bool} {m_hasImage : Bool} {m_tape : Nat → Int32} {m_read : Nat → Int32} {m_order : Nat → Int32} {m_width : Nat → Int32} {m_guard : Nat → Int32} {m_points : Nat → Int32} {m_stages : Nat → Int32} {m_gain : Nat → Int32} {m_undo : Nat → Int32} {m_near : Nat → Bool} {m_quarter : Nat → Int64} {m_ln : Nat → Int64} {m_angle : Nat → Int64} {m_shift : Nat → Int32} {m_digit : Nat → Int32} {m_refused : Nat → Int32} {m_job : Nat → Int32} {m_jobKept : Nat → Int32} {m_result : Nat → Int32} {m_resultKept : Nat → Int32} {m_trace : Nat → Int64} {m_traceKept : Nat → Int64} {m_jobImage : Nat → Int32} {m_resultImage : Nat → Int32} {m_traceImage : Nat → Int64} {p0 : Int32} {p1 : Int32} {o : Int32 × Int32 × Int32} (h : f_X11_number p0 p1 m_length m_at m_fault m_tape = some o) : Std g l yX11_number (.code yX11_number cX11_number 6 (some .int) :: gw) rm_X11_number A [.ref (q 0), .int p0, .int p1] (wM g q m_thrown m_length m_at m_fault m_toldWords m_orders m_value m_hasUnit m_places m_clocks m_held m_x m_y m_z m_first m_second m_aside m_jobs m_jobsImage m_clocksImage m_heldImage m_hasImage m_tape m_read m_order m_width m_guard m_points m_stages m_gain m_undo m_near m_quarter m_ln m_angle m_shift m_digit m_refused m_job m_jobKept m_result m_resultKept m_trace m_traceKept m_jobImage m_resultImage m_traceImage) (wM g q m_thrown m_length o.2.1 o.2.2 m_toldWords m_orders m_value m_hasUnit m_places m_clocks m_held m_x m_y m_z m_first m_second m_aside m_jobs m_jobsImage m_clocksImage m_heldImage m_hasImage m_tape m_read m_order m_width m_guard m_points m_stages m_gain m_undo m_near m_quarter m_ln m_angle m_shift m_digit m_refused m_job m_jobKept m_result m_resultKept m_trace m_traceKept m_jobImage m_resultImage m_traceImage) (some (.int o.1)) := by
  refine std_i (own := RX11) (by decide +kernel) rfl (Nat.le_of_ble_eq_true rfl) ?_
  intro p e s m args below meth c Q X ret H locs hP hS ls hl
  have hx := X.1
  have hb := X.2.1
  have hl : lv_has ls 6 [(0, .ref (q 0)), (1, .int p0), (2, .int p1)] := hl
  have ret : ∀ {H : Heap} {locs : List Loc} {pc : Nat} {ls : Array Slot} {v : Int32} {m_at : Int32} {m_fault : Int32}, some (v, m_at, m_fault) = some o → WP g A (wM g q m_thrown m_length m_at m_fault m_toldWords m_orders m_value m_hasUnit m_places m_clocks m_held m_x m_y m_z m_first m_second m_aside m_jobs m_jobsImage m_clocksImage m_heldImage m_hasImage m_tape m_read m_order m_width m_guard m_points m_stages m_gain m_undo m_near m_quarter m_ln m_angle m_shift m_digit m_refused m_job m_jobKept m_result m_resultKept m_trace m_traceKept m_jobImage m_resultImage m_traceImage) H → va_S A s.heap H locs → decode cX11_number pc = .ok (.ireturn, 1) → W p l e rm_X11_number s m args below meth c H locs 0 0 Q (F0 m pc ls [.int v]) := by
    intro H locs pc ls v m_at m_fault h hP hS hd
    cases h
    exact ret hP hS hd
  have b102 : ∀ (x5 : Int32) (m_at : Int32) (m_fault : Int32) (H : Heap) (locs : List Loc) (ls : Array Slot), f_X11_number_b102  m_length m_tape  x5 m_at m_fault = some o → WP g A (wM g q m_thrown m_length m_at m_fault m_toldWords m_orders m_value m_hasUnit m_places m_clocks m_held m_x m_y m_z m_first m_second m_aside m_jobs m_jobsImage m_clocksImage m_heldImage m_hasImage m_tape m_read m_order m_width m_guard m_points m_stages m_gain m_undo m_near m_quarter m_ln m_angle m_shift m_digit m_refused m_job m_jobKept m_result m_resultKept m_trace m_traceKept m_jobImage m_resultImage m_traceImage) H → va_S A s.heap H locs → lv_has ls 6 [(5, .int x5)] → W p l e rm_X11_number s m args below meth c H locs 0 0 Q (F0 m 102 ls []) := by
    intro  x5 m_at m_fault H locs ls h hP hS hl
    unfold f_X11_number_b102 at h
    refine lv_iload hx hb dX11_number_102 (lv_at hl 0 rfl) ?_
    exact ret h hP hS dX11_number_104
  have b96 : ∀ (x4 : Int32) (x5 : Int32) (m_at : Int32) (m_fault : Int32) (H : Heap) (locs : List Loc) (ls : Array Slot), f_X11_number_b96  m_length m_tape  x4 x5 m_at m_fault = some o → WP g A (wM g q m_thrown m_length m_at m_fault m_toldWords m_orders m_value m_hasUnit m_places m_clocks m_held m_x m_y m_z m_first m_second m_aside m_jobs m_jobsImage m_clocksImage m_heldImage m_hasImage m_tape m_read m_order m_width m_guard m_points m_stages m_gain m_undo m_near m_quarter m_ln m_angle m_shift m_digit m_refused m_job m_jobKept m_result m_resultKept m_trace m_traceKept m_jobImage m_resultImage m_traceImage) H → va_S A s.heap H locs → lv_has ls 6 [(0, .ref (q 0)), (4, .int x4), (5, .int x5)] → W p l e rm_X11_number s m args below meth c H locs 0 0 Q (F0 m 96 ls []) := by
    intro  x4 x5 m_at m_fault H locs ls h hP hS hl
    unfold f_X11_number_b96 at h
    refine lv_aload_n hx hb dX11_number_96 rfl (lv_at hl 0 rfl) ?_
    refine lv_iload hx hb dX11_number_97 (lv_at hl 1 rfl) ?_
    obtain ⟨o4, hco4, h⟩ := bd_of h
    refine kV (rest := []) X dX11_number_99 wd_5_142 mw_X11_fails wd_5_144 wp_7_0 hP (k0 := 0) rfl rfl rfl hS (fun _ z => z) (c_X11_fails hco4) rfl hl.1 rfl (Nat.le_of_ble_eq_true rfl) rfl rfl ⟨Nat.le_of_ble_eq_true rfl, Nat.le_of_ble_eq_true rfl⟩ (fun H locs hP _ _ hS => ?_)
    refine W.eq (g2 := F0 m 102 ls []) rfl ?_
    exact b102   x5 m_at o4 _ _ _ h hP hS (lv_sub hl [2] rfl)
  have b50 : ∀ (k14 : Int32 → Int32 → Int32 → Int32 → Int32 → Int32 → Option (Int32 × Int32 × Int32)) (hk14 : ∀ (x1 : Int32) (x2 : Int32) (x4 : Int32) (x5 : Int32) (m_at : Int32) (m_fault : Int32) (H : Heap) (locs : List Loc) (ls : Array Slot), k14 x1 x2 x4 x5 m_at m_fault = some o → WP g A (wM g q m_thrown m_length m_at m_fault m_toldWords m_orders m_value m_hasUnit m_places m_clocks m_held m_x m_y m_z m_first m_second m_aside m_jobs m_jobsImage m_clocksImage m_heldImage m_hasImage m_tape m_read m_order m_width m_guard m_points m_stages m_gain m_undo m_near m_quarter m_ln m_angle m_shift m_digit m_refused m_job m_jobKept m_result m_resultKept m_trace m_traceKept m_jobImage m_resultImage m_traceImage) H → va_S A s.heap H locs → lv_has ls 6 [(0, .ref (q 0)), (1, .int x1), (2, .int x2), (4, .int x4), (5, .int x5)] → W p l e rm_X11_number s m args below meth c H locs 0 0 Q (F0 m 14 ls [])) , ∀ (x1 : Int32) (x2 : Int32) (x4 : Int32) (x5 : Int32) (m_at : Int32) (m_fault : Int32) (H : Heap) (locs : List Loc) (ls : Array Slot), f_X11_number_b50  m_length m_tape k14 x1 x2 x4 x5 m_at m_fault = some o → WP g A (wM g q m_thrown m_length m_at m_fault m_toldWords m_orders m_value m_hasUnit m_places m_clocks m_held m_x m_y m_z m_first m_second m_aside m_jobs m_jobsImage m_clocksImage m_heldImage m_hasImage m_tape m_read m_order m_width m_guard m_points m_stages m_gain m_undo m_near m_quarter m_ln m_angle m_shift m_digit m_refused m_job m_jobKept m_result m_resultKept m_trace m_traceKept m_jobImage m_resultImage m_traceImage) H → va_S A s.heap H locs → lv_has ls 6 [(0, .ref (q 0)), (1, .int x1), (2, .int x2), (4, .int x4), (5, .int x5)] → W p l e rm_X11_number s m args below meth c H locs 0 0 Q (F0 m 50 ls []) := by
    intro k14 hk14 x1 x2 x4 x5 m_at m_fault H locs ls h hP hS hl
    unfold f_X11_number_b50 at h
    refine lv_aload_n hx hb dX11_number_50 rfl (lv_at hl 0 rfl) ?_
    refine lv_dup hx hb dX11_number_51 rfl ?_
    refine gf_X11_24_M_0 X hP dX11_number_52 ?_
    refine lv_iconst (v := 1) hx hb dX11_number_55 rfl ?_
    refine lv_iadd hx hb dX11_number_56 ?_
    refine lv_topi (fun v6 ev6 => ?_)
    have h := lt_at ev6 h
    refine pf_X11_24_M_0 (v0 := v6) X hP hS dX11_number_57 (fun H locs hP hS => ?_)
    refine lv_goto (tgt := 14) hx hb dX11_number_60 rfl ?_
    exact hk14 x1 x2 x4 x5 v6 m_fault _ _ _ h hP hS (lv_sub hl [0, 1, 2, 3, 4] rfl)
  have l14 : ∀ (n : Nat), ∀ (x1 : Int32) (x2 : Int32) (x4 : Int32) (x5 : Int32) (m_at : Int32) (m_fault : Int32) (H : Heap) (locs : List Loc) (ls : Array Slot), f_X11_number_l14  m_length m_tape  n x1 x2 x4 x5 m_at m_fault = some o → WP g A (wM g q m_thrown m_length m_at m_fault m_toldWords m_orders m_value m_hasUnit m_places m_clocks m_held m_x m_y m_z m_first m_second m_aside m_jobs m_jobsImage m_clocksImage m_heldImage m_hasImage m_tape m_read m_order m_width m_guard m_points m_stages m_gain m_undo m_near m_quarter m_ln m_angle m_shift m_digit m_refused m_job m_jobKept m_result m_resultKept m_trace m_traceKept m_jobImage m_resultImage m_traceImage) H → va_S A s.heap H locs → lv_has ls 6 [(0, .ref (q 0)), (1, .int x1), (2, .int x2), (4, .int x4), (5, .int x5)] → W p l e rm_X11_number s m args below meth c H locs 0 0 Q (F0 m 14 ls []) := by
    intro  n
    induction n with
    | zero =>
      intro x1 x2 x4 x5 m_at m_fault H locs ls h
      exact nz_of h
    | succ n ih =>
      intro x1 x2 x4 x5 m_at m_fault H locs ls h hP hS hl
      rw [f_X11_number_l14] at h
      refine lv_aload_n hx hb dX11_number_14 rfl (lv_at hl 0 rfl) ?_
      obtain ⟨o2, hco2, h⟩ := bd_of h
      refine kV (rest := []) X dX11_number_15 wd_5_118 mw_X11_here wd_5_120 wp_6_12 hP (k0 := 0) rfl rfl rfl hS (fun _ z => z) (c_X11_here hco2) rfl hl.1 rfl (Nat.le_of_ble_eq_true rfl) rfl rfl ⟨Nat.le_of_ble_eq_true rfl, Nat.le_of_ble_eq_true rfl⟩ (fun H locs hP _ _ hS => ?_)
      refine W.eq (g2 := F0 m 18 ls [.int o2]) rfl ?_
      obtain ⟨o3, hco3, h⟩ := bd_of h
      refine kS (rest := []) X dX11_number_18 wd_5_150 mw_X11_isDigit wd_5_151 hP hS (fun _ z => z) (c_X11_isDigit hco3) rfl hl.1 rfl (Nat.le_of_ble_eq_true rfl) rfl rfl ⟨Nat.le_of_ble_eq_true rfl, Nat.le_of_ble_eq_true rfl⟩ (fun H locs hP _ _ hS => ?_)
      refine W.eq (g2 := F0 m 21 ls [.int (bI o3)]) rfl ?_
      refine rb_eq (tgt := 63) hx hb dX11_number_21 rfl (fun c21 => ?_) (fun c21 => ?_)
      · have h := br_n c21 h
        refine lv_aload_n hx hb dX11_number_63 rfl (lv_at hl 0 rfl) ?_
        refine gf_X11_24_M_0 X hP dX11_number_64 ?_
        refine lv_iload hx hb dX11_number_67 (lv_at hl 3 rfl) ?_
        refine lv_icmp_eq (tgt := 96) hx hb dX11_number_69 rfl (fun c69 => ?_) (fun c69 => ?_)
        · have h := br_p c69 h
          exact b96   x4 x5 m_at m_fault _ _ _ h hP hS (lv_sub hl [0, 3, 4] rfl)
        · have h := br_n c69 h
          refine lv_aload_n hx hb dX11_number_72 rfl (lv_at hl 0 rfl) ?_
          refine gf_X11_24_M_0 X hP dX11_number_73 ?_
          refine lv_iload hx hb dX11_number_76 (lv_at hl 3 rfl) ?_
          refine lv_isub hx hb dX11_number_78 ?_
          refine lv_iconst (v := 2) hx hb dX11_number_79 rfl ?_
          refine lv_icmp_gt (tgt := 96) hx hb dX11_number_80 rfl (fun c80 => ?_) (fun c80 => ?_)
          · have h := br_p c80 h
            exact b96   x4 x5 m_at m_fault _ _ _ h hP hS (lv_sub hl [0, 3, 4] rfl)
          · have h := br_n c80 h
            refine lv_iload hx hb dX11_number_83 (lv_at hl 4 rfl) ?_
            refine lv_i2l hx hb dX11_number_85 rfl ?_
            refine lv_iload_n hx hb dX11_number_86 rfl (lv_at hl 1 rfl) ?_
            refine lv_i2l hx hb dX11_number_87 rfl ?_
            refine lv_iload_n hx hb dX11_number_88 rfl (lv_at hl 2 rfl) ?_
            refine lv_i2l hx hb dX11_number_89 rfl ?_
            obtain ⟨o5, hco5, h⟩ := bd_of h
            refine kS (rest := []) X dX11_number_90 wd_5_153 mw_X11_isIn wd_5_154 hP hS (fun _ z => z) (c_X11_isIn hco5) rfl hl.1 rfl (Nat.le_of_ble_eq_true rfl) rfl rfl ⟨Nat.le_of_ble_eq_true rfl, Nat.le_of_ble_eq_true rfl⟩ (fun H locs hP _ _ hS => ?_)
            refine W.eq (g2 := F0 m 93 ls [.int (bI o5)]) rfl ?_
            refine rb_ne (tgt := 102) hx hb dX11_number_93 rfl (fun c93 => ?_) (fun c93 => ?_)
            · have h := br_p c93 h
              exact b102   x5 m_at m_fault _ _ _ h hP hS (lv_sub hl [4] rfl)
            · have h := br_n c93 h
              exact b96   x4 x5 m_at m_fault _ _ _ h hP hS (lv_sub hl [0, 3, 4] rfl)
      · have h := br_p c21 h
        refine lv_aload_n hx hb dX11_number_24 rfl (lv_at hl 0 rfl) ?_
        refine gf_X11_24_M_0 X hP dX11_number_25 ?_
        refine lv_iload hx hb dX11_number_28 (lv_at hl 3 rfl) ?_
        refine lv_isub hx hb dX11_number_30 ?_
        refine lv_iconst (v := 3) hx hb dX11_number_31 rfl ?_
        refine lv_icmp_ge (tgt := 50) hx hb dX11_number_32 rfl (fun c32 => ?_) (fun c32 => ?_)
        · have h := br_p c32 h
          exact b50 (f_X11_number_l14  m_length m_tape  n) ih  x1 x2 x4 x5 m_at m_fault _ _ _ h hP hS (lv_sub hl [0, 1, 2, 3, 4] rfl)
        · have h := br_n c32 h
          refine lv_bipush (v := 10) hx hb dX11_number_35 rfl ?_
          refine lv_iload hx hb dX11_number_37 (lv_at hl 4 rfl) ?_
          refine lv_imul hx hb dX11_number_39 ?_
          refine lv_aload_n hx hb dX11_number_40 rfl (lv_at hl 0 rfl) ?_
          obtain ⟨o7, hco7, h⟩ := bd_of h
          refine kV (rest := [.int ((10 : Int32) * x5)]) X dX11_number_41 wd_5_118 mw_X11_here wd_5_120 wp_6_12 hP (k0 := 0) rfl rfl rfl hS (fun _ z => z) (c_X11_here hco7) rfl hl.1 rfl (Nat.le_of_ble_eq_true rfl) rfl rfl ⟨Nat.le_of_ble_eq_true rfl, Nat.le_of_ble_eq_true rfl⟩ (fun H locs hP _ _ hS => ?_)
          refine W.eq (g2 := F0 m 44 ls [.int o7, .int ((10 : Int32) * x5)]) rfl ?_
          refine lv_iadd hx hb dX11_number_44 ?_
          refine lv_bipush (v := 48) hx hb dX11_number_45 rfl ?_
          refine lv_isub hx hb dX11_number_47 ?_
          refine lv_topi (fun v8 ev8 => ?_)
          have h := lt_at ev8 h
          refine lv_istore (lv' := [(5, .int v8), (0, .ref (q 0)), (1, .int x1), (2, .int x2), (4, .int x4)]) hx hb dX11_number_48 hl (by decide) rfl (fun ls hl => ?_)
          exact b50 (f_X11_number_l14  m_length m_tape  n) ih  x1 x2 x4 v8 m_at m_fault _ _ _ h hP hS (lv_sub hl [1, 2, 3, 4, 0] rfl)
  unfold f_X11_number at h
  refine lv_aload_n hx hb dX11_number_0 rfl (lv_at hl 0 rfl) ?_
  obtain ⟨o1, hco1, h⟩ := bd_of h
  refine kV (rest := []) X dX11_number_1 wd_5_114 mw_X11_look wd_5_116 wp_6_11 hP (k0 := 0) rfl rfl rfl hS (fun _ z => z) (c_X11_look hco1) rfl hl.1 rfl (Nat.le_of_ble_eq_true rfl) rfl rfl ⟨Nat.le_of_ble_eq_true rfl, Nat.le_of_ble_eq_true rfl⟩ (fun H locs hP _ _ hS => ?_)
  refine W.eq (g2 := F0 m 4 ls [.int o1.1]) rfl ?_
  refine lv_istore_n (lv' := [(3, .int o1.1), (0, .ref (q 0)), (1, .int p0), (2, .int p1)]) hx hb dX11_number_4 rfl hl (by decide) rfl (fun ls hl => ?_)
  refine lv_aload_n hx hb dX11_number_5 rfl (lv_at hl 1 rfl) ?_
  refine gf_X11_24_M_0 X hP dX11_number_6 ?_
  refine lv_istore (lv' := [(4, .int o1.2), (3, .int o1.1), (0, .ref (q 0)), (1, .int p0), (2, .int p1)]) hx hb dX11_number_9 hl (by decide) rfl (fun ls hl => ?_)
  refine lv_iconst (v := 0) hx hb dX11_number_11 rfl ?_
  refine lv_istore (lv' := [(5, .int 0), (4, .int o1.2), (3, .int o1.1), (0, .ref (q 0)), (1, .int p0), (2, .int p1)]) hx hb dX11_number_12 hl (by decide) rfl (fun ls hl => ?_)
  exact l14  FU p0 p1 o1.2 (0 : Int32) o1.2 m_fault _ _ _ h hP hS (lv_sub hl [3, 4, 5, 1, 0] rfl)
abbrev rm_X11_piece : Room := { frames := 6, cells := 0, slots := 0, locals := 134 }
set_option maxRecDepth 100000 in
set_option maxHeartbeats 4000000 in
theorem c_X11_piece {g : gT} {l : Launch} {A : Nat → Prop} {q : Nat → Nat} {m_thrown : Int32} {m_length : Int32} {m_at : Int32} {m_fault : Int32} {m_toldWords : Int32} {m_orders : Int32} {m_value : Int32} {m_hasUnit : Bool} {m_places : Int32} {m_clocks : Int32} {m_held : Bool} {m_x : Int64} {m_y : Int64} {m_z : Int64} {m_first : Int64} {m_second : Int64} {m_aside : Int32} {m_jobs : Int32} {m_jobsImage : Int32} {m_clocksImage : Int32} {m_heldImage : Bool} {m_hasImage : Bool} {m_tape : Nat → Int32} {m_read : Nat → Int32} {m_order : Nat → Int32} {m_width : Nat → Int32} {m_guard : Nat → Int32} {m_points : Nat → Int32} {m_stages : Nat → Int32} {m_gain : Nat → Int32} {m_undo : Nat → Int32} {m_near : Nat → Bool} {m_quarter : Nat → Int64} {m_ln : Nat → Int64} {m_angle : Nat → Int64} {m_shift : Nat → Int32} {m_digit : Nat → Int32} {m_refused : Nat → Int32} {m_job : Nat → Int32} {m_jobKept : Nat → Int32} {m_result : Nat → Int32} {m_resultKept : Nat → Int32} {m_trace : Nat → Int64} {m_traceKept : Nat → Int64} {m_jobImage : Nat → Int32} {m_resultImage : Nat → Int32} {m_traceImage : Nat → Int64}  {o : Int32 × Int32 × Int32 × (Nat → Int32)} (h : f_X11_piece  m_length m_at m_fault m_toldWords m_tape m_read = some o) : Std g l yX11_piece (.code yX11_piece cX11_piece 5 none :: gw) rm_X11_piece A [.ref (q 0)] (wM g q m_thrown m_length m_at m_fault m_toldWords m_orders m_value m_hasUnit m_places m_clocks m_held m_x m_y m_z m_first m_second m_aside m_jobs m_jobsImage m_clocksImage m_heldImage m_hasImage m_tape m_read m_order m_width m_guard m_points m_stages m_gain m_undo m_near m_quarter m_ln m_angle m_shift m_digit m_refused m_job m_jobKept m_result m_resultKept m_trace m_traceKept m_jobImage m_resultImage m_traceImage) (wM g q m_thrown m_length o.1 o.2.1 o.2.2.1 m_orders m_value m_hasUnit m_places m_clocks m_held m_x m_y m_z m_first m_second m_aside m_jobs m_jobsImage m_clocksImage m_heldImage m_hasImage m_tape o.2.2.2 m_order m_width m_guard m_points m_stages m_gain m_undo m_near m_quarter m_ln m_angle m_shift m_digit m_refused m_job m_jobKept m_result m_resultKept m_trace m_traceKept m_jobImage m_resultImage m_traceImage) none := by
  refine std_v (own := RX11) (by decide +kernel) rfl (Nat.le_of_ble_eq_true rfl) ?_
  intro p e s m args below meth c Q X ret H locs hP hS ls hl
  have hx := X.1
  have hb := X.2.1
  have hl : lv_has ls 5 [(0, .ref (q 0))] := hl
  have ret : ∀ {H : Heap} {locs : List Loc} {pc : Nat} {ls : Array Slot} {m_at : Int32} {m_fault : Int32} {m_toldWords : Int32} {m_read : Nat → Int32}, some (m_at, m_fault, m_toldWords, m_read) = some o → WP g A (wM g q m_thrown m_length m_at m_fault m_toldWords m_orders m_value m_hasUnit m_places m_clocks m_held m_x m_y m_z m_first m_second m_aside m_jobs m_jobsImage m_clocksImage m_heldImage m_hasImage m_tape m_read m_order m_width m_guard m_points m_stages m_gain m_undo m_near m_quarter m_ln m_angle m_shift m_digit m_refused m_job m_jobKept m_result m_resultKept m_trace m_traceKept m_jobImage m_resultImage m_traceImage) H → va_S A s.heap H locs → decode cX11_piece pc = .ok (.return_, 1) → W p l e rm_X11_piece s m args below meth c H locs 0 0 Q (F0 m pc ls []) := by
    intro H locs pc ls m_at m_fault m_toldWords m_read h hP hS hd
    cases h
    exact ret hP hS hd
  have b165 : ∀ (x3 : Int32) (m_at : Int32) (m_fault : Int32) (m_toldWords : Int32) (m_read : Nat → Int32) (H : Heap) (locs : List Loc) (ls : Array Slot), f_X11_piece_b165  m_length m_tape  x3 m_at m_fault m_toldWords m_read = some o → WP g A (wM g q m_thrown m_length m_at m_fault m_toldWords m_orders m_value m_hasUnit m_places m_clocks m_held m_x m_y m_z m_first m_second m_aside m_jobs m_jobsImage m_clocksImage m_heldImage m_hasImage m_tape m_read m_order m_width m_guard m_points m_stages m_gain m_undo m_near m_quarter m_ln m_angle m_shift m_digit m_refused m_job m_jobKept m_result m_resultKept m_trace m_traceKept m_jobImage m_resultImage m_traceImage) H → va_S A s.heap H locs → lv_has ls 5 [(0, .ref (q 0)), (3, .int x3)] → W p l e rm_X11_piece s m args below meth c H locs 0 0 Q (F0 m 165 ls []) := by
    intro  x3 m_at m_fault m_toldWords m_read H locs ls h hP hS hl
    unfold f_X11_piece_b165 at h
    refine lv_iload_n hx hb dX11_piece_165 rfl (lv_at hl 1 rfl) ?_
    refine lv_iconst (v := 3) hx hb dX11_piece_166 rfl ?_
    refine lv_icmp_ne (tgt := 183) hx hb dX11_piece_167 rfl (fun c167 => ?_) (fun c167 => ?_)
    · have h := br_n c167 h
      exact ret h hP hS dX11_piece_183
    · have h := br_p c167 h
      refine lv_aload_n hx hb dX11_piece_170 rfl (lv_at hl 0 rfl) ?_
      refine gf_X11_81_M_0 X hP dX11_piece_171 ?_
      refine lv_iconst (v := 3) hx hb dX11_piece_174 rfl ?_
      refine lv_aload_n hx hb dX11_piece_175 rfl (lv_at hl 0 rfl) ?_
      refine lv_iconst (v := 1) hx hb dX11_piece_176 rfl ?_
      refine lv_bipush (v := 12) hx hb dX11_piece_177 rfl ?_
      obtain ⟨o5, hco5, h⟩ := bd_of h
      refine kV (rest := [.int 3, .ref (q 2)]) X dX11_piece_179 wd_5_146 mw_X11_number wd_5_148 wp_7_1 hP (k0 := 0) rfl rfl rfl hS (fun _ z => z) (c_X11_number hco5) rfl hl.1 rfl (Nat.le_of_ble_eq_true rfl) rfl rfl ⟨Nat.le_of_ble_eq_true rfl, Nat.le_of_ble_eq_true rfl⟩ (fun H locs hP _ _ hS => ?_)
      refine W.eq (g2 := F0 m 182 ls [.int o5.1, .int 3, .ref (q 2)]) rfl ?_
      obtain ⟨hi182, h⟩ := gv_of h
      refine as_M_2 (v0 := o5.1) X hP hS hi182 dX11_piece_182 (fun H locs hP hS => ?_)
      exact ret h hP hS dX11_piece_183
  have b147 : ∀ (x3 : Int32) (m_at : Int32) (m_fault : Int32) (m_toldWords : Int32) (m_read : Nat → Int32) (H : Heap) (locs : List Loc) (ls : Array Slot), f_X11_piece_b147  m_length m_tape  x3 m_at m_fault m_toldWords m_read = some o → WP g A (wM g q m_thrown m_length m_at m_fault m_toldWords m_orders m_value m_hasUnit m_places m_clocks m_held m_x m_y m_z m_first m_second m_aside m_jobs m_jobsImage m_clocksImage m_heldImage m_hasImage m_tape m_read m_order m_width m_guard m_points m_stages m_gain m_undo m_near m_quarter m_ln m_angle m_shift m_digit m_refused m_job m_jobKept m_result m_resultKept m_trace m_traceKept m_jobImage m_resultImage m_traceImage) H → va_S A s.heap H locs → lv_has ls 5 [(0, .ref (q 0)), (3, .int x3)] → W p l e rm_X11_piece s m args below meth c H locs 0 0 Q (F0 m 147 ls []) := by
    intro  x3 m_at m_fault m_toldWords m_read H locs ls h hP hS hl
    unfold f_X11_piece_b147 at h
    refine lv_iload_n hx hb dX11_piece_147 rfl (lv_at hl 1 rfl) ?_
    refine lv_iconst (v := 2) hx hb dX11_piece_148 rfl ?_
    refine lv_icmp_ne (tgt := 165) hx hb dX11_piece_149 rfl (fun c149 => ?_) (fun c149 => ?_)
    · have h := br_n c149 h
      exact b165   x3 m_at m_fault m_toldWords m_read _ _ _ h hP hS (lv_sub hl [0, 1] rfl)
    · have h := br_p c149 h
      refine lv_aload_n hx hb dX11_piece_152 rfl (lv_at hl 0 rfl) ?_
      refine gf_X11_81_M_0 X hP dX11_piece_153 ?_
      refine lv_iconst (v := 2) hx hb dX11_piece_156 rfl ?_
      refine lv_aload_n hx hb dX11_piece_157 rfl (lv_at hl 0 rfl) ?_
      refine lv_iconst (v := 5) hx hb dX11_piece_158 rfl ?_
      refine lv_bipush (v := 24) hx hb dX11_piece_159 rfl ?_
      obtain ⟨o6, hco6, h⟩ := bd_of h
      refine kV (rest := [.int 2, .ref (q 2)]) X dX11_piece_161 wd_5_146 mw_X11_number wd_5_148 wp_7_1 hP (k0 := 0) rfl rfl rfl hS (fun _ z => z) (c_X11_number hco6) rfl hl.1 rfl (Nat.le_of_ble_eq_true rfl) rfl rfl ⟨Nat.le_of_ble_eq_true rfl, Nat.le_of_ble_eq_true rfl⟩ (fun H locs hP _ _ hS => ?_)
      refine W.eq (g2 := F0 m 164 ls [.int o6.1, .int 2, .ref (q 2)]) rfl ?_
      obtain ⟨hi164, h⟩ := gv_of h
      refine as_M_2 (v0 := o6.1) X hP hS hi164 dX11_piece_164 (fun H locs hP hS => ?_)
      exact b165   x3 o6.2.1 o6.2.2 m_toldWords (upd m_read ((2 : Int32)).toNatClampNeg o6.1) _ _ _ h hP hS (lv_sub hl [0, 1] rfl)
  have b130 : ∀ (x3 : Int32) (m_at : Int32) (m_fault : Int32) (m_toldWords : Int32) (m_read : Nat → Int32) (H : Heap) (locs : List Loc) (ls : Array Slot), f_X11_piece_b130  m_length m_tape  x3 m_at m_fault m_toldWords m_read = some o → WP g A (wM g q m_thrown m_length m_at m_fault m_toldWords m_orders m_value m_hasUnit m_places m_clocks m_held m_x m_y m_z m_first m_second m_aside m_jobs m_jobsImage m_clocksImage m_heldImage m_hasImage m_tape m_read m_order m_width m_guard m_points m_stages m_gain m_undo m_near m_quarter m_ln m_angle m_shift m_digit m_refused m_job m_jobKept m_result m_resultKept m_trace m_traceKept m_jobImage m_resultImage m_traceImage) H → va_S A s.heap H locs → lv_has ls 5 [(0, .ref (q 0)), (3, .int x3)] → W p l e rm_X11_piece s m args below meth c H locs 0 0 Q (F0 m 130 ls []) := by
    intro  x3 m_at m_fault m_toldWords m_read H locs ls h hP hS hl
    unfold f_X11_piece_b130 at h
    refine lv_iload_n hx hb dX11_piece_130 rfl (lv_at hl 1 rfl) ?_
    refine lv_iconst (v := 1) hx hb dX11_piece_131 rfl ?_
    refine lv_icmp_ne (tgt := 147) hx hb dX11_piece_132 rfl (fun c132 => ?_) (fun c132 => ?_)
    · have h := br_n c132 h
      exact b147   x3 m_at m_fault m_toldWords m_read _ _ _ h hP hS (lv_sub hl [0, 1] rfl)
    · have h := br_p c132 h
      refine lv_aload_n hx hb dX11_piece_135 rfl (lv_at hl 0 rfl) ?_
      refine gf_X11_81_M_0 X hP dX11_piece_136 ?_
      refine lv_iconst (v := 1) hx hb dX11_piece_139 rfl ?_
      refine lv_aload_n hx hb dX11_piece_140 rfl (lv_at hl 0 rfl) ?_
      refine lv_iconst (v := 0) hx hb dX11_piece_141 rfl ?_
      refine lv_iconst (v := 4) hx hb dX11_piece_142 rfl ?_
      obtain ⟨o7, hco7, h⟩ := bd_of h
      refine kV (rest := [.int 1, .ref (q 2)]) X dX11_piece_143 wd_5_146 mw_X11_number wd_5_148 wp_7_1 hP (k0 := 0) rfl rfl rfl hS (fun _ z => z) (c_X11_number hco7) rfl hl.1 rfl (Nat.le_of_ble_eq_true rfl) rfl rfl ⟨Nat.le_of_ble_eq_true rfl, Nat.le_of_ble_eq_true rfl⟩ (fun H locs hP _ _ hS => ?_)
      refine W.eq (g2 := F0 m 146 ls [.int o7.1, .int 1, .ref (q 2)]) rfl ?_
      obtain ⟨hi146, h⟩ := gv_of h
      refine as_M_2 (v0 := o7.1) X hP hS hi146 dX11_piece_146 (fun H locs hP hS => ?_)
      exact b147   x3 o7.2.1 o7.2.2 m_toldWords (upd m_read ((1 : Int32)).toNatClampNeg o7.1) _ _ _ h hP hS (lv_sub hl [0, 1] rfl)
  have b72 : ∀ (x2 : Int32) (x3 : Int32) (t0 : Bool) (m_at : Int32) (m_fault : Int32) (m_toldWords : Int32) (m_read : Nat → Int32) (H : Heap) (locs : List Loc) (ls : Array Slot), f_X11_piece_b72  m_length m_tape  x2 x3 t0 m_at m_fault m_toldWords m_read = some o → WP g A (wM g q m_thrown m_length m_at m_fault m_toldWords m_orders m_value m_hasUnit m_places m_clocks m_held m_x m_y m_z m_first m_second m_aside m_jobs m_jobsImage m_clocksImage m_heldImage m_hasImage m_tape m_read m_order m_width m_guard m_points m_stages m_gain m_undo m_near m_quarter m_ln m_angle m_shift m_digit m_refused m_job m_jobKept m_result m_resultKept m_trace m_traceKept m_jobImage m_resultImage m_traceImage) H → va_S A s.heap H locs → lv_has ls 5 [(0, .ref (q 0)), (2, .int x2), (3, .int x3)] → W p l e rm_X11_piece s m args below meth c H locs 0 0 Q (F0 m 72 ls [.int (bI t0)]) := by
    intro  x2 x3 t0 m_at m_fault m_toldWords m_read H locs ls h hP hS hl
    unfold f_X11_piece_b72 at h
    refine lv_istore (lv' := [(4, .int (bI t0)), (0, .ref (q 0)), (2, .int x2), (3, .int x3)]) hx hb dX11_piece_72 hl (by decide) rfl (fun ls hl => ?_)
    refine lv_iload hx hb dX11_piece_74 (lv_at hl 0 rfl) ?_
    refine rb_eq (tgt := 88) hx hb dX11_piece_76 rfl (fun c76 => ?_) (fun c76 => ?_)
    · have h := br_n c76 h
      refine lv_aload_n hx hb dX11_piece_88 rfl (lv_at hl 1 rfl) ?_
      refine lv_dup hx hb dX11_piece_89 rfl ?_
      refine gf_X11_78_M_0 X hP dX11_piece_90 ?_
      refine lv_iconst (v := 1) hx hb dX11_piece_93 rfl ?_
      refine lv_iload_n hx hb dX11_piece_94 rfl (lv_at hl 3 rfl) ?_
      refine lv_ishl hx hb dX11_piece_95 ?_
      refine lv_ior hx hb dX11_piece_96 ?_
      refine lv_topi (fun v4 ev4 => ?_)
      have h := lt_at ev4 h
      refine pf_X11_78_M_0 (v0 := v4) X hP hS dX11_piece_97 (fun H locs hP hS => ?_)
      refine lv_aload_n hx hb dX11_piece_100 rfl (lv_at hl 1 rfl) ?_
      refine lv_iload_n hx hb dX11_piece_101 rfl (lv_at hl 2 rfl) ?_
      refine pf_X11_24_M_0 (v0 := x2) X hP hS dX11_piece_102 (fun H locs hP hS => ?_)
      refine lv_aload_n hx hb dX11_piece_105 rfl (lv_at hl 1 rfl) ?_
      refine gf_X11_81_M_0 X hP dX11_piece_106 ?_
      refine lv_iload_n hx hb dX11_piece_109 rfl (lv_at hl 3 rfl) ?_
      refine lv_iconst (v := 1) hx hb dX11_piece_110 rfl ?_
      obtain ⟨hi111, h⟩ := gv_of h
      refine as_M_2 (v0 := (1 : Int32)) X hP hS hi111 dX11_piece_111 (fun H locs hP hS => ?_)
      refine lv_iload_n hx hb dX11_piece_112 rfl (lv_at hl 3 rfl) ?_
      refine lv_if_ne (tgt := 130) hx hb dX11_piece_113 rfl (fun c113 => ?_) (fun c113 => ?_)
      · have h := br_n c113 h
        exact b130   x3 x2 m_fault v4 (upd m_read (x3).toNatClampNeg (1 : Int32)) _ _ _ h hP hS (lv_sub hl [1, 3] rfl)
      · have h := br_p c113 h
        refine lv_aload_n hx hb dX11_piece_116 rfl (lv_at hl 1 rfl) ?_
        refine gf_X11_81_M_0 X hP dX11_piece_117 ?_
        refine lv_iconst (v := 0) hx hb dX11_piece_120 rfl ?_
        refine lv_aload_n hx hb dX11_piece_121 rfl (lv_at hl 1 rfl) ?_
        refine lv_bipush (v := 6) hx hb dX11_piece_122 rfl ?_
        refine lv_bipush (v := 22) hx hb dX11_piece_124 rfl ?_
        obtain ⟨o8, hco8, h⟩ := bd_of h
        refine kV (rest := [.int 0, .ref (q 2)]) X dX11_piece_126 wd_5_146 mw_X11_number wd_5_148 wp_7_1 hP (k0 := 0) rfl rfl rfl hS (fun _ z => z) (c_X11_number hco8) rfl hl.1 rfl (Nat.le_of_ble_eq_true rfl) rfl rfl ⟨Nat.le_of_ble_eq_true rfl, Nat.le_of_ble_eq_true rfl⟩ (fun H locs hP _ _ hS => ?_)
        refine W.eq (g2 := F0 m 129 ls [.int o8.1, .int 0, .ref (q 2)]) rfl ?_
        obtain ⟨hi129, h⟩ := gv_of h
        refine as_M_2 (v0 := o8.1) X hP hS hi129 dX11_piece_129 (fun H locs hP hS => ?_)
        exact b130   x3 o8.2.1 o8.2.2 v4 (upd (upd m_read (x3).toNatClampNeg (1 : Int32)) ((0 : Int32)).toNatClampNeg o8.1) _ _ _ h hP hS (lv_sub hl [1, 3] rfl)
    · have h := br_p c76 h
      refine lv_aload_n hx hb dX11_piece_79 rfl (lv_at hl 1 rfl) ?_
      refine lv_aload_n hx hb dX11_piece_80 rfl (lv_at hl 1 rfl) ?_
      refine gf_X11_24_M_0 X hP dX11_piece_81 ?_
      obtain ⟨o9, hco9, h⟩ := bd_of h
      refine kV (rest := []) X dX11_piece_84 wd_5_142 mw_X11_fails wd_5_144 wp_7_0 hP (k0 := 0) rfl rfl rfl hS (fun _ z => z) (c_X11_fails hco9) rfl hl.1 rfl (Nat.le_of_ble_eq_true rfl) rfl rfl ⟨Nat.le_of_ble_eq_true rfl, Nat.le_of_ble_eq_true rfl⟩ (fun H locs hP _ _ hS => ?_)
      refine W.eq (g2 := F0 m 87 ls []) rfl ?_
      exact ret h hP hS dX11_piece_87
  have b67 : ∀ (x2 : Int32) (x3 : Int32) (m_at : Int32) (m_fault : Int32) (m_toldWords : Int32) (m_read : Nat → Int32) (H : Heap) (locs : List Loc) (ls : Array Slot), f_X11_piece_b67  m_length m_tape  x2 x3 m_at m_fault m_toldWords m_read = some o → WP g A (wM g q m_thrown m_length m_at m_fault m_toldWords m_orders m_value m_hasUnit m_places m_clocks m_held m_x m_y m_z m_first m_second m_aside m_jobs m_jobsImage m_clocksImage m_heldImage m_hasImage m_tape m_read m_order m_width m_guard m_points m_stages m_gain m_undo m_near m_quarter m_ln m_angle m_shift m_digit m_refused m_job m_jobKept m_result m_resultKept m_trace m_traceKept m_jobImage m_resultImage m_traceImage) H → va_S A s.heap H locs → lv_has ls 5 [(0, .ref (q 0)), (2, .int x2), (3, .int x3)] → W p l e rm_X11_piece s m args below meth c H locs 0 0 Q (F0 m 67 ls []) := by
    intro  x2 x3 m_at m_fault m_toldWords m_read H locs ls h hP hS hl
    unfold f_X11_piece_b67 at h
    refine lv_iconst (v := 1) hx hb dX11_piece_67 rfl ?_
    refine lv_goto (tgt := 72) hx hb dX11_piece_68 rfl ?_
    exact b72   x2 x3 true m_at m_fault m_toldWords m_read _ _ _ h hP hS (lv_sub hl [0, 1, 2] rfl)
  unfold f_X11_piece at h
  refine lv_aload_n hx hb dX11_piece_0 rfl (lv_at hl 0 rfl) ?_
  obtain ⟨o1, hco1, h⟩ := bd_of h
  refine kV (rest := []) X dX11_piece_1 wd_5_114 mw_X11_look wd_5_116 wp_6_11 hP (k0 := 0) rfl rfl rfl hS (fun _ z => z) (c_X11_look hco1) rfl hl.1 rfl (Nat.le_of_ble_eq_true rfl) rfl rfl ⟨Nat.le_of_ble_eq_true rfl, Nat.le_of_ble_eq_true rfl⟩ (fun H locs hP _ _ hS => ?_)
  refine W.eq (g2 := F0 m 4 ls [.int o1.1]) rfl ?_
  refine lv_istore_n (lv' := [(1, .int o1.1), (0, .ref (q 0))]) hx hb dX11_piece_4 rfl hl (by decide) rfl (fun ls hl => ?_)
  refine lv_aload_n hx hb dX11_piece_5 rfl (lv_at hl 1 rfl) ?_
  obtain ⟨o2, hco2, h⟩ := bd_of h
  refine kV (rest := []) X dX11_piece_6 wd_5_122 mw_X11_wordEnd wd_5_124 wp_6_13 hP (k0 := 0) rfl rfl rfl hS (fun _ z => z) (c_X11_wordEnd hco2) rfl hl.1 rfl (Nat.le_of_ble_eq_true rfl) rfl rfl ⟨Nat.le_of_ble_eq_true rfl, Nat.le_of_ble_eq_true rfl⟩ (fun H locs hP _ _ hS => ?_)
  refine W.eq (g2 := F0 m 9 ls [.int o2]) rfl ?_
  refine lv_istore_n (lv' := [(2, .int o2), (1, .int o1.1), (0, .ref (q 0))]) hx hb dX11_piece_9 rfl hl (by decide) rfl (fun ls hl => ?_)
  refine lv_aload_n hx hb dX11_piece_10 rfl (lv_at hl 2 rfl) ?_
  refine lv_iload_n hx hb dX11_piece_11 rfl (lv_at hl 0 rfl) ?_
  obtain ⟨o3, hco3, h⟩ := bd_of h
  refine kV (rest := []) X dX11_piece_12 wd_5_126 mw_X11_wordHere wd_5_128 wp_6_14 hP (k0 := 0) rfl rfl rfl hS (fun _ z => z) (c_X11_wordHere hco3) rfl hl.1 rfl (Nat.le_of_ble_eq_true rfl) rfl rfl ⟨Nat.le_of_ble_eq_true rfl, Nat.le_of_ble_eq_true rfl⟩ (fun H locs hP _ _ hS => ?_)
  refine W.eq (g2 := F0 m 15 ls [.int o3]) rfl ?_
  refine lv_istore_n (lv' := [(3, .int o3), (2, .int o2), (1, .int o1.1), (0, .ref (q 0))]) hx hb dX11_piece_15 rfl hl (by decide) rfl (fun ls hl => ?_)
  refine lv_iload_n hx hb dX11_piece_16 rfl (lv_at hl 0 rfl) ?_
  refine lv_iconst (v := (-1)) hx hb dX11_piece_17 rfl ?_
  refine lv_icmp_eq (tgt := 67) hx hb dX11_piece_18 rfl (fun c18 => ?_) (fun c18 => ?_)
  · have h := br_p c18 h
    exact b67   o2 o3 o1.2 m_fault m_toldWords m_read _ _ _ h hP hS (lv_sub hl [3, 1, 0] rfl)
  · have h := br_n c18 h
    refine lv_aload_n hx hb dX11_piece_21 rfl (lv_at hl 3 rfl) ?_
    refine gf_X11_78_M_0 X hP dX11_piece_22 ?_
    refine lv_iload_n hx hb dX11_piece_25 rfl (lv_at hl 0 rfl) ?_
    refine lv_ishr hx hb dX11_piece_26 ?_
    refine lv_iconst (v := 1) hx hb dX11_piece_27 rfl ?_
    refine lv_iand hx hb dX11_piece_28 ?_
    refine lv_iconst (v := 1) hx hb dX11_piece_29 rfl ?_
    refine jx1 h (P := fun (v10 : Bool) => ∀ ls : Array Slot, lv_has ls 5 [(0, .ref (q 0)), (2, .int o2), (3, .int o3)] → W p l e rm_X11_piece s m args below meth c H locs 0 0 Q (F0 m 72 ls [.int (bI v10)])) ?_ ?_
    · intro v10 h ls hl
      refine lv_istore (lv' := [(4, .int (bI v10)), (0, .ref (q 0)), (2, .int o2), (3, .int o3)]) hx hb dX11_piece_72 hl (by decide) rfl (fun ls hl => ?_)
      refine lv_iload hx hb dX11_piece_74 (lv_at hl 0 rfl) ?_
      refine rb_eq (tgt := 88) hx hb dX11_piece_76 rfl (fun c76 => ?_) (fun c76 => ?_)
      · have h := br_n c76 h
        refine lv_aload_n hx hb dX11_piece_88 rfl (lv_at hl 1 rfl) ?_
        refine lv_dup hx hb dX11_piece_89 rfl ?_
        refine gf_X11_78_M_0 X hP dX11_piece_90 ?_
        refine lv_iconst (v := 1) hx hb dX11_piece_93 rfl ?_
        refine lv_iload_n hx hb dX11_piece_94 rfl (lv_at hl 3 rfl) ?_
        refine lv_ishl hx hb dX11_piece_95 ?_
        refine lv_ior hx hb dX11_piece_96 ?_
        refine lv_topi (fun v11 ev11 => ?_)
        have h := lt_at ev11 h
        refine pf_X11_78_M_0 (v0 := v11) X hP hS dX11_piece_97 (fun H locs hP hS => ?_)
        refine lv_aload_n hx hb dX11_piece_100 rfl (lv_at hl 1 rfl) ?_
        refine lv_iload_n hx hb dX11_piece_101 rfl (lv_at hl 2 rfl) ?_
        refine pf_X11_24_M_0 (v0 := o2) X hP hS dX11_piece_102 (fun H locs hP hS => ?_)
        refine lv_aload_n hx hb dX11_piece_105 rfl (lv_at hl 1 rfl) ?_
        refine gf_X11_81_M_0 X hP dX11_piece_106 ?_
        refine lv_iload_n hx hb dX11_piece_109 rfl (lv_at hl 3 rfl) ?_
        refine lv_iconst (v := 1) hx hb dX11_piece_110 rfl ?_
        obtain ⟨hi111, h⟩ := gv_of h
        refine as_M_2 (v0 := (1 : Int32)) X hP hS hi111 dX11_piece_111 (fun H locs hP hS => ?_)
        refine lv_iload_n hx hb dX11_piece_112 rfl (lv_at hl 3 rfl) ?_
        refine lv_if_ne (tgt := 130) hx hb dX11_piece_113 rfl (fun c113 => ?_) (fun c113 => ?_)
        · have h := br_n c113 h
          exact b130   o3 o2 m_fault v11 (upd m_read (o3).toNatClampNeg (1 : Int32)) _ _ _ h hP hS (lv_sub hl [1, 3] rfl)
        · have h := br_p c113 h
          refine lv_aload_n hx hb dX11_piece_116 rfl (lv_at hl 1 rfl) ?_
          refine gf_X11_81_M_0 X hP dX11_piece_117 ?_
          refine lv_iconst (v := 0) hx hb dX11_piece_120 rfl ?_
          refine lv_aload_n hx hb dX11_piece_121 rfl (lv_at hl 1 rfl) ?_
          refine lv_bipush (v := 6) hx hb dX11_piece_122 rfl ?_
          refine lv_bipush (v := 22) hx hb dX11_piece_124 rfl ?_
          obtain ⟨o12, hco12, h⟩ := bd_of h
          refine kV (rest := [.int 0, .ref (q 2)]) X dX11_piece_126 wd_5_146 mw_X11_number wd_5_148 wp_7_1 hP (k0 := 0) rfl rfl rfl hS (fun _ z => z) (c_X11_number hco12) rfl hl.1 rfl (Nat.le_of_ble_eq_true rfl) rfl rfl ⟨Nat.le_of_ble_eq_true rfl, Nat.le_of_ble_eq_true rfl⟩ (fun H locs hP _ _ hS => ?_)
          refine W.eq (g2 := F0 m 129 ls [.int o12.1, .int 0, .ref (q 2)]) rfl ?_
          obtain ⟨hi129, h⟩ := gv_of h
          refine as_M_2 (v0 := o12.1) X hP hS hi129 dX11_piece_129 (fun H locs hP hS => ?_)
          exact b130   o3 o12.2.1 o12.2.2 v11 (upd (upd m_read (o3).toNatClampNeg (1 : Int32)) ((0 : Int32)).toNatClampNeg o12.1) _ _ _ h hP hS (lv_sub hl [1, 3] rfl)
      · have h := br_p c76 h
        refine lv_aload_n hx hb dX11_piece_79 rfl (lv_at hl 1 rfl) ?_
        refine lv_aload_n hx hb dX11_piece_80 rfl (lv_at hl 1 rfl) ?_
        refine gf_X11_24_M_0 X hP dX11_piece_81 ?_
        obtain ⟨o13, hco13, h⟩ := bd_of h
        refine kV (rest := []) X dX11_piece_84 wd_5_142 mw_X11_fails wd_5_144 wp_7_0 hP (k0 := 0) rfl rfl rfl hS (fun _ z => z) (c_X11_fails hco13) rfl hl.1 rfl (Nat.le_of_ble_eq_true rfl) rfl rfl ⟨Nat.le_of_ble_eq_true rfl, Nat.le_of_ble_eq_true rfl⟩ (fun H locs hP _ _ hS => ?_)
        refine W.eq (g2 := F0 m 87 ls []) rfl ?_
        exact ret h hP hS dX11_piece_87
    · intro J h
      refine lv_icmp_eq (tgt := 67) hx hb dX11_piece_30 rfl (fun c30 => ?_) (fun c30 => ?_)
      · refine lv_iconst (v := 1) hx hb dX11_piece_67 rfl ?_
        refine lv_goto (tgt := 72) hx hb dX11_piece_68 rfl ?_
        exact J _ (lt_ip c30 h) ls (lv_sub hl [3, 1, 0] rfl)
      · refine lv_iload_n hx hb dX11_piece_33 rfl (lv_at hl 0 rfl) ?_
        refine lv_iconst (v := 5) hx hb dX11_piece_34 rfl ?_
        refine lv_icmp_ne (tgt := 50) hx hb dX11_piece_35 rfl (fun c35 => ?_) (fun c35 => ?_)
        · refine lv_iload_n hx hb dX11_piece_50 rfl (lv_at hl 0 rfl) ?_
          refine lv_iconst (v := 3) hx hb dX11_piece_51 rfl ?_
          refine lv_icmp_ne (tgt := 71) hx hb dX11_piece_52 rfl (fun c52 => ?_) (fun c52 => ?_)
          · refine lv_iconst (v := 0) hx hb dX11_piece_71 rfl ?_
            exact J _ (lt_in c52 (lt_in c35 (lt_in c30 h))) ls (lv_sub hl [3, 1, 0] rfl)
          · refine lv_aload_n hx hb dX11_piece_55 rfl (lv_at hl 3 rfl) ?_
            refine gf_X11_78_M_0 X hP dX11_piece_56 ?_
            refine lv_iconst (v := 5) hx hb dX11_piece_59 rfl ?_
            refine lv_ishr hx hb dX11_piece_60 ?_
            refine lv_iconst (v := 1) hx hb dX11_piece_61 rfl ?_
            refine lv_iand hx hb dX11_piece_62 ?_
            refine lv_iconst (v := 1) hx hb dX11_piece_63 rfl ?_
            refine lv_icmp_ne (tgt := 71) hx hb dX11_piece_64 rfl (fun c64 => ?_) (fun c64 => ?_)
            · refine lv_iconst (v := 0) hx hb dX11_piece_71 rfl ?_
              exact J _ (lt_in c64 (lt_ip c52 (lt_in c35 (lt_in c30 h)))) ls (lv_sub hl [3, 1, 0] rfl)
            · refine lv_iconst (v := 1) hx hb dX11_piece_67 rfl ?_
              refine lv_goto (tgt := 72) hx hb dX11_piece_68 rfl ?_
              exact J _ (lt_ip c64 (lt_ip c52 (lt_in c35 (lt_in c30 h)))) ls (lv_sub hl [3, 1, 0] rfl)
        · refine lv_aload_n hx hb dX11_piece_38 rfl (lv_at hl 3 rfl) ?_
          refine gf_X11_78_M_0 X hP dX11_piece_39 ?_
          refine lv_iconst (v := 3) hx hb dX11_piece_42 rfl ?_
          refine lv_ishr hx hb dX11_piece_43 ?_
          refine lv_iconst (v := 1) hx hb dX11_piece_44 rfl ?_
          refine lv_iand hx hb dX11_piece_45 ?_
          refine lv_iconst (v := 1) hx hb dX11_piece_46 rfl ?_
          refine lv_icmp_eq (tgt := 67) hx hb dX11_piece_47 rfl (fun c47 => ?_) (fun c47 => ?_)
          · refine lv_iconst (v := 1) hx hb dX11_piece_67 rfl ?_
            refine lv_goto (tgt := 72) hx hb dX11_piece_68 rfl ?_
            exact J _ (lt_ip c47 (lt_ip c35 (lt_in c30 h))) ls (lv_sub hl [3, 1, 0] rfl)
          · refine lv_iload_n hx hb dX11_piece_50 rfl (lv_at hl 0 rfl) ?_
            refine lv_iconst (v := 3) hx hb dX11_piece_51 rfl ?_
            refine lv_icmp_ne (tgt := 71) hx hb dX11_piece_52 rfl (fun c52 => ?_) (fun c52 => ?_)
            · refine lv_iconst (v := 0) hx hb dX11_piece_71 rfl ?_
              exact J _ (lt_in c52 (lt_in c47 (lt_ip c35 (lt_in c30 h)))) ls (lv_sub hl [3, 1, 0] rfl)
            · refine lv_aload_n hx hb dX11_piece_55 rfl (lv_at hl 3 rfl) ?_
              refine gf_X11_78_M_0 X hP dX11_piece_56 ?_
              refine lv_iconst (v := 5) hx hb dX11_piece_59 rfl ?_
              refine lv_ishr hx hb dX11_piece_60 ?_
              refine lv_iconst (v := 1) hx hb dX11_piece_61 rfl ?_
              refine lv_iand hx hb dX11_piece_62 ?_
              refine lv_iconst (v := 1) hx hb dX11_piece_63 rfl ?_
              refine lv_icmp_ne (tgt := 71) hx hb dX11_piece_64 rfl (fun c64 => ?_) (fun c64 => ?_)
              · refine lv_iconst (v := 0) hx hb dX11_piece_71 rfl ?_
                exact J _ (lt_in c64 (lt_ip c52 (lt_in c47 (lt_ip c35 (lt_in c30 h))))) ls (lv_sub hl [3, 1, 0] rfl)
              · refine lv_iconst (v := 1) hx hb dX11_piece_67 rfl ?_
                refine lv_goto (tgt := 72) hx hb dX11_piece_68 rfl ?_
                exact J _ (lt_ip c64 (lt_ip c52 (lt_in c47 (lt_ip c35 (lt_in c30 h))))) ls (lv_sub hl [3, 1, 0] rfl)
abbrev rm_X11_readsUnit : Room := { frames := 7, cells := 0, slots := 0, locals := 158 }
set_option maxRecDepth 100000 in
set_option maxHeartbeats 4000000 in
theorem c_X11_readsUnit {g : gT} {l : Launch} {A : Nat → Prop} {q : Nat → Nat} {m_thrown : Int32} {m_length : Int32} {m_at : Int32} {m_fault : Int32} {m_toldWords : Int32} {m_orders : Int32} {m_value : Int32} {m_hasUnit : Bool} {m_places : Int32} {m_clocks : Int32} {m_held : Bool} {m_x : Int64} {m_y : Int64} {m_z : Int64} {m_first : Int64} {m_second : Int64} {m_aside : Int32} {m_jobs : Int32} {m_jobsImage : Int32} {m_clocksImage : Int32} {m_heldImage : Bool} {m_hasImage : Bool} {m_tape : Nat → Int32} {m_read : Nat → Int32} {m_order : Nat → Int32} {m_width : Nat → Int32} {m_guard : Nat → Int32} {m_points : Nat → Int32} {m_stages : Nat → Int32} {m_gain : Nat → Int32} {m_undo : Nat → Int32} {m_near : Nat → Bool} {m_quarter : Nat → Int64} {m_ln : Nat → Int64} {m_angle : Nat → Int64} {m_shift : Nat → Int32} {m_digit : Nat → Int32} {m_refused : Nat → Int32} {m_job : Nat → Int32} {m_jobKept : Nat → Int32} {m_result : Nat → Int32} {m_resultKept : Nat → Int32} {m_trace : Nat → Int64} {m_traceKept : Nat → Int64} {m_jobImage : Nat → Int32} {m_resultImage : Nat → Int32} {m_traceImage : Nat → Int64}  {o : Int32 × Int32 × Int32 × Int32 × (Nat → Int32)} (h : f_X11_readsUnit  m_length m_at m_fault m_toldWords m_tape m_read = some o) : Std g l yX11_readsUnit (.code yX11_readsUnit cX11_readsUnit 2 (some .int) :: gw) rm_X11_readsUnit A [.ref (q 0)] (wM g q m_thrown m_length m_at m_fault m_toldWords m_orders m_value m_hasUnit m_places m_clocks m_held m_x m_y m_z m_first m_second m_aside m_jobs m_jobsImage m_clocksImage m_heldImage m_hasImage m_tape m_read m_order m_width m_guard m_points m_stages m_gain m_undo m_near m_quarter m_ln m_angle m_shift m_digit m_refused m_job m_jobKept m_result m_resultKept m_trace m_traceKept m_jobImage m_resultImage m_traceImage) (wM g q m_thrown m_length o.2.1 o.2.2.1 o.2.2.2.1 m_orders m_value m_hasUnit m_places m_clocks m_held m_x m_y m_z m_first m_second m_aside m_jobs m_jobsImage m_clocksImage m_heldImage m_hasImage m_tape o.2.2.2.2 m_order m_width m_guard m_points m_stages m_gain m_undo m_near m_quarter m_ln m_angle m_shift m_digit m_refused m_job m_jobKept m_result m_resultKept m_trace m_traceKept m_jobImage m_resultImage m_traceImage) (some (.int o.1)) := by
  refine std_i (own := RX11) (by decide +kernel) rfl (Nat.le_of_ble_eq_true rfl) ?_
  intro p e s m args below meth c Q X ret H locs hP hS ls hl
  have hx := X.1
  have hb := X.2.1
  have hl : lv_has ls 2 [(0, .ref (q 0))] := hl
  have ret : ∀ {H : Heap} {locs : List Loc} {pc : Nat} {ls : Array Slot} {v : Int32} {m_at : Int32} {m_fault : Int32} {m_toldWords : Int32} {m_read : Nat → Int32}, some (v, m_at, m_fault, m_toldWords, m_read) = some o → WP g A (wM g q m_thrown m_length m_at m_fault m_toldWords m_orders m_value m_hasUnit m_places m_clocks m_held m_x m_y m_z m_first m_second m_aside m_jobs m_jobsImage m_clocksImage m_heldImage m_hasImage m_tape m_read m_order m_width m_guard m_points m_stages m_gain m_undo m_near m_quarter m_ln m_angle m_shift m_digit m_refused m_job m_jobKept m_result m_resultKept m_trace m_traceKept m_jobImage m_resultImage m_traceImage) H → va_S A s.heap H locs → decode cX11_readsUnit pc = .ok (.ireturn, 1) → W p l e rm_X11_readsUnit s m args below meth c H locs 0 0 Q (F0 m pc ls [.int v]) := by
    intro H locs pc ls v m_at m_fault m_toldWords m_read h hP hS hd
    cases h
    exact ret hP hS hd
  have b115 : ∀ (m_at : Int32) (m_fault : Int32) (m_toldWords : Int32) (m_read : Nat → Int32) (H : Heap) (locs : List Loc) (ls : Array Slot), f_X11_readsUnit_b115  m_length m_tape  m_at m_fault m_toldWords m_read = some o → WP g A (wM g q m_thrown m_length m_at m_fault m_toldWords m_orders m_value m_hasUnit m_places m_clocks m_held m_x m_y m_z m_first m_second m_aside m_jobs m_jobsImage m_clocksImage m_heldImage m_hasImage m_tape m_read m_order m_width m_guard m_points m_stages m_gain m_undo m_near m_quarter m_ln m_angle m_shift m_digit m_refused m_job m_jobKept m_result m_resultKept m_trace m_traceKept m_jobImage m_resultImage m_traceImage) H → va_S A s.heap H locs → lv_has ls 2 [(0, .ref (q 0))] → W p l e rm_X11_readsUnit s m args below meth c H locs 0 0 Q (F0 m 115 ls []) := by
    intro  m_at m_fault m_toldWords m_read H locs ls h hP hS hl
    unfold f_X11_readsUnit_b115 at h
    refine lv_aload_n hx hb dX11_readsUnit_115 rfl (lv_at hl 0 rfl) ?_
    refine gf_X11_31_M_0 X hP dX11_readsUnit_116 ?_
    exact ret h hP hS dX11_readsUnit_119
  have b107 : ∀ (m_at : Int32) (m_fault : Int32) (m_toldWords : Int32) (m_read : Nat → Int32) (H : Heap) (locs : List Loc) (ls : Array Slot), f_X11_readsUnit_b107  m_length m_tape  m_at m_fault m_toldWords m_read = some o → WP g A (wM g q m_thrown m_length m_at m_fault m_toldWords m_orders m_value m_hasUnit m_places m_clocks m_held m_x m_y m_z m_first m_second m_aside m_jobs m_jobsImage m_clocksImage m_heldImage m_hasImage m_tape m_read m_order m_width m_guard m_points m_stages m_gain m_undo m_near m_quarter m_ln m_angle m_shift m_digit m_refused m_job m_jobKept m_result m_resultKept m_trace m_traceKept m_jobImage m_resultImage m_traceImage) H → va_S A s.heap H locs → lv_has ls 2 [(0, .ref (q 0))] → W p l e rm_X11_readsUnit s m args below meth c H locs 0 0 Q (F0 m 107 ls []) := by
    intro  m_at m_fault m_toldWords m_read H locs ls h hP hS hl
    unfold f_X11_readsUnit_b107 at h
    refine lv_aload_n hx hb dX11_readsUnit_107 rfl (lv_at hl 0 rfl) ?_
    refine lv_aload_n hx hb dX11_readsUnit_108 rfl (lv_at hl 0 rfl) ?_
    refine gf_X11_24_M_0 X hP dX11_readsUnit_109 ?_
    obtain ⟨o3, hco3, h⟩ := bd_of h
    refine kV (rest := []) X dX11_readsUnit_112 wd_5_142 mw_X11_fails wd_5_144 wp_7_0 hP (k0 := 0) rfl rfl rfl hS (fun _ z => z) (c_X11_fails hco3) rfl hl.1 rfl (Nat.le_of_ble_eq_true rfl) rfl rfl ⟨Nat.le_of_ble_eq_true rfl, Nat.le_of_ble_eq_true rfl⟩ (fun H locs hP _ _ hS => ?_)
    refine W.eq (g2 := F0 m 115 ls []) rfl ?_
    exact b115   m_at o3 m_toldWords m_read _ _ _ h hP hS (lv_sub hl [0] rfl)
  have b81 : ∀ (m_at : Int32) (m_fault : Int32) (m_toldWords : Int32) (m_read : Nat → Int32) (H : Heap) (locs : List Loc) (ls : Array Slot), f_X11_readsUnit_b81  m_length m_tape  m_at m_fault m_toldWords m_read = some o → WP g A (wM g q m_thrown m_length m_at m_fault m_toldWords m_orders m_value m_hasUnit m_places m_clocks m_held m_x m_y m_z m_first m_second m_aside m_jobs m_jobsImage m_clocksImage m_heldImage m_hasImage m_tape m_read m_order m_width m_guard m_points m_stages m_gain m_undo m_near m_quarter m_ln m_angle m_shift m_digit m_refused m_job m_jobKept m_result m_resultKept m_trace m_traceKept m_jobImage m_resultImage m_traceImage) H → va_S A s.heap H locs → lv_has ls 2 [(0, .ref (q 0))] → W p l e rm_X11_readsUnit s m args below meth c H locs 0 0 Q (F0 m 81 ls []) := by
    intro  m_at m_fault m_toldWords m_read H locs ls h hP hS hl
    unfold f_X11_readsUnit_b81 at h
    refine lv_aload_n hx hb dX11_readsUnit_81 rfl (lv_at hl 0 rfl) ?_
    refine gf_X11_31_M_0 X hP dX11_readsUnit_82 ?_
    refine lv_iconst (v := (-1)) hx hb dX11_readsUnit_85 rfl ?_
    refine lv_icmp_ne (tgt := 115) hx hb dX11_readsUnit_86 rfl (fun c86 => ?_) (fun c86 => ?_)
    · have h := br_n c86 h
      exact b115   m_at m_fault m_toldWords m_read _ _ _ h hP hS (lv_sub hl [0] rfl)
    · have h := br_p c86 h
      refine lv_aload_n hx hb dX11_readsUnit_89 rfl (lv_at hl 0 rfl) ?_
      obtain ⟨o2, hco2, h⟩ := bd_of h
      refine kV (rest := []) X dX11_readsUnit_90 wd_5_114 mw_X11_look wd_5_116 wp_6_11 hP (k0 := 0) rfl rfl rfl hS (fun _ z => z) (c_X11_look hco2) rfl hl.1 rfl (Nat.le_of_ble_eq_true rfl) rfl rfl ⟨Nat.le_of_ble_eq_true rfl, Nat.le_of_ble_eq_true rfl⟩ (fun H locs hP _ _ hS => ?_)
      refine W.eq (g2 := F0 m 93 ls [.int o2.1]) rfl ?_
      refine lv_iconst (v := (-1)) hx hb dX11_readsUnit_93 rfl ?_
      refine lv_icmp_ne (tgt := 107) hx hb dX11_readsUnit_94 rfl (fun c94 => ?_) (fun c94 => ?_)
      · have h := br_n c94 h
        exact b107   o2.2 m_fault m_toldWords m_read _ _ _ h hP hS (lv_sub hl [0] rfl)
      · have h := br_p c94 h
        refine lv_aload_n hx hb dX11_readsUnit_97 rfl (lv_at hl 0 rfl) ?_
        refine gf_X11_78_M_0 X hP dX11_readsUnit_98 ?_
        refine lv_iconst (v := 5) hx hb dX11_readsUnit_101 rfl ?_
        refine lv_iand hx hb dX11_readsUnit_102 ?_
        refine lv_iconst (v := 5) hx hb dX11_readsUnit_103 rfl ?_
        refine lv_icmp_eq (tgt := 115) hx hb dX11_readsUnit_104 rfl (fun c104 => ?_) (fun c104 => ?_)
        · have h := br_p c104 h
          exact b115   o2.2 m_fault m_toldWords m_read _ _ _ h hP hS (lv_sub hl [0] rfl)
        · have h := br_n c104 h
          exact b107   o2.2 m_fault m_toldWords m_read _ _ _ h hP hS (lv_sub hl [0] rfl)
  have l47 : ∀ (n : Nat), ∀ (m_at : Int32) (m_fault : Int32) (m_toldWords : Int32) (m_read : Nat → Int32) (H : Heap) (locs : List Loc) (ls : Array Slot), f_X11_readsUnit_l47  m_length m_tape  n m_at m_fault m_toldWords m_read = some o → WP g A (wM g q m_thrown m_length m_at m_fault m_toldWords m_orders m_value m_hasUnit m_places m_clocks m_held m_x m_y m_z m_first m_second m_aside m_jobs m_jobsImage m_clocksImage m_heldImage m_hasImage m_tape m_read m_order m_width m_guard m_points m_stages m_gain m_undo m_near m_quarter m_ln m_angle m_shift m_digit m_refused m_job m_jobKept m_result m_resultKept m_trace m_traceKept m_jobImage m_resultImage m_traceImage) H → va_S A s.heap H locs → lv_has ls 2 [(0, .ref (q 0))] → W p l e rm_X11_readsUnit s m args below meth c H locs 0 0 Q (F0 m 47 ls []) := by
    intro  n
    induction n with
    | zero =>
      intro m_at m_fault m_toldWords m_read H locs ls h
      exact nz_of h
    | succ n ih =>
      intro m_at m_fault m_toldWords m_read H locs ls h hP hS hl
      rw [f_X11_readsUnit_l47] at h
      refine lv_aload_n hx hb dX11_readsUnit_47 rfl (lv_at hl 0 rfl) ?_
      refine gf_X11_31_M_0 X hP dX11_readsUnit_48 ?_
      refine lv_iconst (v := (-1)) hx hb dX11_readsUnit_51 rfl ?_
      refine lv_icmp_ne (tgt := 81) hx hb dX11_readsUnit_52 rfl (fun c52 => ?_) (fun c52 => ?_)
      · have h := br_n c52 h
        exact b81   m_at m_fault m_toldWords m_read _ _ _ h hP hS (lv_sub hl [0] rfl)
      · have h := br_p c52 h
        refine lv_aload_n hx hb dX11_readsUnit_55 rfl (lv_at hl 0 rfl) ?_
        obtain ⟨o4, hco4, h⟩ := bd_of h
        refine kV (rest := []) X dX11_readsUnit_56 wd_5_114 mw_X11_look wd_5_116 wp_6_11 hP (k0 := 0) rfl rfl rfl hS (fun _ z => z) (c_X11_look hco4) rfl hl.1 rfl (Nat.le_of_ble_eq_true rfl) rfl rfl ⟨Nat.le_of_ble_eq_true rfl, Nat.le_of_ble_eq_true rfl⟩ (fun H locs hP _ _ hS => ?_)
        refine W.eq (g2 := F0 m 59 ls [.int o4.1]) rfl ?_
        refine lv_bipush (v := 59) hx hb dX11_readsUnit_59 rfl ?_
        refine lv_icmp_ne (tgt := 81) hx hb dX11_readsUnit_61 rfl (fun c61 => ?_) (fun c61 => ?_)
        · have h := br_n c61 h
          exact b81   o4.2 m_fault m_toldWords m_read _ _ _ h hP hS (lv_sub hl [0] rfl)
        · have h := br_p c61 h
          refine lv_aload_n hx hb dX11_readsUnit_64 rfl (lv_at hl 0 rfl) ?_
          refine lv_dup hx hb dX11_readsUnit_65 rfl ?_
          refine gf_X11_24_M_0 X hP dX11_readsUnit_66 ?_
          refine lv_iconst (v := 1) hx hb dX11_readsUnit_69 rfl ?_
          refine lv_iadd hx hb dX11_readsUnit_70 ?_
          refine lv_topi (fun v5 ev5 => ?_)
          have h := lt_at ev5 h
          refine pf_X11_24_M_0 (v0 := v5) X hP hS dX11_readsUnit_71 (fun H locs hP hS => ?_)
          refine lv_aload_n hx hb dX11_readsUnit_74 rfl (lv_at hl 0 rfl) ?_
          obtain ⟨o6, hco6, h⟩ := bd_of h
          refine kV (rest := []) X dX11_readsUnit_75 wd_5_110 mw_X11_piece wd_5_112 wp_6_10 hP (k0 := 0) rfl rfl rfl hS (fun _ z => z) (c_X11_piece hco6) rfl hl.1 rfl (Nat.le_of_ble_eq_true rfl) rfl rfl ⟨Nat.le_of_ble_eq_true rfl, Nat.le_of_ble_eq_true rfl⟩ (fun H locs hP _ _ hS => ?_)
          refine W.eq (g2 := F0 m 78 ls []) rfl ?_
          refine lv_goto (tgt := 47) hx hb dX11_readsUnit_78 rfl ?_
          exact ih o6.1 o6.2.1 o6.2.2.1 o6.2.2.2 _ _ _ h hP hS (lv_sub hl [0] rfl)
  have l17 : ∀ (n : Nat), ∀ (x1 : Int32) (m_at : Int32) (m_fault : Int32) (m_toldWords : Int32) (m_read : Nat → Int32) (H : Heap) (locs : List Loc) (ls : Array Slot), f_X11_readsUnit_l17  m_length m_tape  n x1 m_at m_fault m_toldWords m_read = some o → WP g A (wM g q m_thrown m_length m_at m_fault m_toldWords m_orders m_value m_hasUnit m_places m_clocks m_held m_x m_y m_z m_first m_second m_aside m_jobs m_jobsImage m_clocksImage m_heldImage m_hasImage m_tape m_read m_order m_width m_guard m_points m_stages m_gain m_undo m_near m_quarter m_ln m_angle m_shift m_digit m_refused m_job m_jobKept m_result m_resultKept m_trace m_traceKept m_jobImage m_resultImage m_traceImage) H → va_S A s.heap H locs → lv_has ls 2 [(0, .ref (q 0)), (1, .int x1)] → W p l e rm_X11_readsUnit s m args below meth c H locs 0 0 Q (F0 m 17 ls []) := by
    intro  n
    induction n with
    | zero =>
      intro x1 m_at m_fault m_toldWords m_read H locs ls h
      exact nz_of h
    | succ n ih =>
      intro x1 m_at m_fault m_toldWords m_read H locs ls h hP hS hl
      rw [f_X11_readsUnit_l17] at h
      refine lv_iload_n hx hb dX11_readsUnit_17 rfl (lv_at hl 1 rfl) ?_
      refine lv_bipush (v := 6) hx hb dX11_readsUnit_18 rfl ?_
      refine lv_icmp_ge (tgt := 36) hx hb dX11_readsUnit_20 rfl (fun c20 => ?_) (fun c20 => ?_)
      · have h := br_p c20 h
        refine lv_aload_n hx hb dX11_readsUnit_36 rfl (lv_at hl 0 rfl) ?_
        refine gf_X11_81_M_0 X hP dX11_readsUnit_37 ?_
        refine lv_iconst (v := 1) hx hb dX11_readsUnit_40 rfl ?_
        refine lv_iconst (v := 2) hx hb dX11_readsUnit_41 rfl ?_
        obtain ⟨hi42, h⟩ := gv_of h
        refine as_M_2 (v0 := (2 : Int32)) X hP hS hi42 dX11_readsUnit_42 (fun H locs hP hS => ?_)
        refine lv_aload_n hx hb dX11_readsUnit_43 rfl (lv_at hl 0 rfl) ?_
        obtain ⟨o1, hco1, h⟩ := bd_of h
        refine kV (rest := []) X dX11_readsUnit_44 wd_5_110 mw_X11_piece wd_5_112 wp_6_10 hP (k0 := 0) rfl rfl rfl hS (fun _ z => z) (c_X11_piece hco1) rfl hl.1 rfl (Nat.le_of_ble_eq_true rfl) rfl rfl ⟨Nat.le_of_ble_eq_true rfl, Nat.le_of_ble_eq_true rfl⟩ (fun H locs hP _ _ hS => ?_)
        refine W.eq (g2 := F0 m 47 ls []) rfl ?_
        exact l47  FU o1.1 o1.2.1 o1.2.2.1 o1.2.2.2 _ _ _ h hP hS (lv_sub hl [0] rfl)
      · have h := br_n c20 h
        refine lv_aload_n hx hb dX11_readsUnit_23 rfl (lv_at hl 0 rfl) ?_
        refine gf_X11_81_M_0 X hP dX11_readsUnit_24 ?_
        refine lv_iload_n hx hb dX11_readsUnit_27 rfl (lv_at hl 1 rfl) ?_
        refine lv_iconst (v := 0) hx hb dX11_readsUnit_28 rfl ?_
        obtain ⟨hi29, h⟩ := gv_of h
        refine as_M_2 (v0 := (0 : Int32)) X hP hS hi29 dX11_readsUnit_29 (fun H locs hP hS => ?_)
        obtain ⟨v7, ev7⟩ : ∃ z : Int32, z = (x1 + 1) := ⟨_, rfl⟩
        have h := lt_at ev7 h
        refine lv_iinc (v := v7) (lv' := [(1, .int v7), (0, .ref (q 0))]) hx hb dX11_readsUnit_30 hl (k := 1) rfl (by rw [ev7]; rfl) (by decide) rfl (fun ls hl => ?_)
        refine lv_goto (tgt := 17) hx hb dX11_readsUnit_33 rfl ?_
        exact ih v7 m_at m_fault m_toldWords (upd m_read (x1).toNatClampNeg (0 : Int32)) _ _ _ h hP hS (lv_sub hl [1, 0] rfl)
  unfold f_X11_readsUnit at h
  refine lv_aload_n hx hb dX11_readsUnit_0 rfl (lv_at hl 0 rfl) ?_
  refine lv_iconst (v := 0) hx hb dX11_readsUnit_1 rfl ?_
  refine pf_X11_24_M_0 (v0 := (0 : Int32)) X hP hS dX11_readsUnit_2 (fun H locs hP hS => ?_)
  refine lv_aload_n hx hb dX11_readsUnit_5 rfl (lv_at hl 0 rfl) ?_
  refine lv_iconst (v := (-1)) hx hb dX11_readsUnit_6 rfl ?_
  refine pf_X11_31_M_0 (v0 := (-1 : Int32)) X hP hS dX11_readsUnit_7 (fun H locs hP hS => ?_)
  refine lv_aload_n hx hb dX11_readsUnit_10 rfl (lv_at hl 0 rfl) ?_
  refine lv_iconst (v := 0) hx hb dX11_readsUnit_11 rfl ?_
  refine pf_X11_78_M_0 (v0 := (0 : Int32)) X hP hS dX11_readsUnit_12 (fun H locs hP hS => ?_)
  refine lv_iconst (v := 0) hx hb dX11_readsUnit_15 rfl ?_
  refine lv_istore_n (lv' := [(1, .int 0), (0, .ref (q 0))]) hx hb dX11_readsUnit_16 rfl hl (by decide) rfl (fun ls hl => ?_)
  exact l17  FU (0 : Int32) (0 : Int32) (-1 : Int32) (0 : Int32) m_read _ _ _ h hP hS (lv_sub hl [1, 0] rfl)
abbrev rm_X11_kindHere : Room := { frames := 5, cells := 0, slots := 0, locals := 113 }
set_option maxRecDepth 100000 in
set_option maxHeartbeats 4000000 in
theorem c_X11_kindHere {g : gT} {l : Launch} {A : Nat → Prop} {q : Nat → Nat} {m_thrown : Int32} {m_length : Int32} {m_at : Int32} {m_fault : Int32} {m_toldWords : Int32} {m_orders : Int32} {m_value : Int32} {m_hasUnit : Bool} {m_places : Int32} {m_clocks : Int32} {m_held : Bool} {m_x : Int64} {m_y : Int64} {m_z : Int64} {m_first : Int64} {m_second : Int64} {m_aside : Int32} {m_jobs : Int32} {m_jobsImage : Int32} {m_clocksImage : Int32} {m_heldImage : Bool} {m_hasImage : Bool} {m_tape : Nat → Int32} {m_read : Nat → Int32} {m_order : Nat → Int32} {m_width : Nat → Int32} {m_guard : Nat → Int32} {m_points : Nat → Int32} {m_stages : Nat → Int32} {m_gain : Nat → Int32} {m_undo : Nat → Int32} {m_near : Nat → Bool} {m_quarter : Nat → Int64} {m_ln : Nat → Int64} {m_angle : Nat → Int64} {m_shift : Nat → Int32} {m_digit : Nat → Int32} {m_refused : Nat → Int32} {m_job : Nat → Int32} {m_jobKept : Nat → Int32} {m_result : Nat → Int32} {m_resultKept : Nat → Int32} {m_trace : Nat → Int64} {m_traceKept : Nat → Int64} {m_jobImage : Nat → Int32} {m_resultImage : Nat → Int32} {m_traceImage : Nat → Int64} {p0 : Int32} {o : Int32} (h : f_X11_kindHere p0 m_at m_tape = some o) : Std g l yX11_kindHere (.code yX11_kindHere cX11_kindHere 2 (some .int) :: gw) rm_X11_kindHere A [.ref (q 0), .int p0] (wM g q m_thrown m_length m_at m_fault m_toldWords m_orders m_value m_hasUnit m_places m_clocks m_held m_x m_y m_z m_first m_second m_aside m_jobs m_jobsImage m_clocksImage m_heldImage m_hasImage m_tape m_read m_order m_width m_guard m_points m_stages m_gain m_undo m_near m_quarter m_ln m_angle m_shift m_digit m_refused m_job m_jobKept m_result m_resultKept m_trace m_traceKept m_jobImage m_resultImage m_traceImage) (wM g q m_thrown m_length m_at m_fault m_toldWords m_orders m_value m_hasUnit m_places m_clocks m_held m_x m_y m_z m_first m_second m_aside m_jobs m_jobsImage m_clocksImage m_heldImage m_hasImage m_tape m_read m_order m_width m_guard m_points m_stages m_gain m_undo m_near m_quarter m_ln m_angle m_shift m_digit m_refused m_job m_jobKept m_result m_resultKept m_trace m_traceKept m_jobImage m_resultImage m_traceImage) (some (.int o)) := by
  refine std_i (own := RX11) (by decide +kernel) rfl (Nat.le_of_ble_eq_true rfl) ?_
  intro p e s m args below meth c Q X ret H locs hP hS ls hl
  have hx := X.1
  have hb := X.2.1
  have hl : lv_has ls 2 [(0, .ref (q 0)), (1, .int p0)] := hl
  have ret : ∀ {H : Heap} {locs : List Loc} {pc : Nat} {ls : Array Slot} {v : Int32} , some (v) = some o → WP g A (wM g q m_thrown m_length m_at m_fault m_toldWords m_orders m_value m_hasUnit m_places m_clocks m_held m_x m_y m_z m_first m_second m_aside m_jobs m_jobsImage m_clocksImage m_heldImage m_hasImage m_tape m_read m_order m_width m_guard m_points m_stages m_gain m_undo m_near m_quarter m_ln m_angle m_shift m_digit m_refused m_job m_jobKept m_result m_resultKept m_trace m_traceKept m_jobImage m_resultImage m_traceImage) H → va_S A s.heap H locs → decode cX11_kindHere pc = .ok (.ireturn, 1) → W p l e rm_X11_kindHere s m args below meth c H locs 0 0 Q (F0 m pc ls [.int v]) := by
    intro H locs pc ls v h hP hS hd
    cases h
    exact ret hP hS hd
  unfold f_X11_kindHere at h
  refine lv_aload_n hx hb dX11_kindHere_0 rfl (lv_at hl 0 rfl) ?_
  refine ldS X ((sfX X).2.2.2.2.2.2.2.2.2.2.2.2.2.2.2.1 6 _ rfl) dX11_kindHere_1 ?_
  refine lv_iload_n hx hb dX11_kindHere_3 rfl (lv_at hl 1 rfl) ?_
  obtain ⟨o1, hco1, h⟩ := bd_of h
  refine kV (rest := []) X dX11_kindHere_4 wd_5_131 mw_X11_isWord wd_5_133 wp_6_15 hP (k0 := 0) rfl rfl rfl hS (fun _ z => z) (c_X11_isWord (Nat.le_of_ble_eq_true rfl) hco1) rfl hl.1 rfl (Nat.le_of_ble_eq_true rfl) rfl rfl ⟨Nat.le_of_ble_eq_true rfl, Nat.le_of_ble_eq_true rfl⟩ (fun H locs hP _ _ hS => ?_)
  refine W.eq (g2 := F0 m 7 ls [.int (bI o1)]) rfl ?_
  refine rb_eq (tgt := 12) hx hb dX11_kindHere_7 rfl (fun c7 => ?_) (fun c7 => ?_)
  · have h := br_n c7 h
    refine lv_aload_n hx hb dX11_kindHere_12 rfl (lv_at hl 0 rfl) ?_
    refine ldS X ((sfX X).2.2.2.2.2.2.2.2.2.2.2.2.2.2.2.1 7 _ rfl) dX11_kindHere_13 ?_
    refine lv_iload_n hx hb dX11_kindHere_15 rfl (lv_at hl 1 rfl) ?_
    obtain ⟨o2, hco2, h⟩ := bd_of h
    refine kV (rest := []) X dX11_kindHere_16 wd_5_131 mw_X11_isWord wd_5_133 wp_6_15 hP (k0 := 0) rfl rfl rfl hS (fun _ z => z) (c_X11_isWord (Nat.le_of_ble_eq_true rfl) hco2) rfl hl.1 rfl (Nat.le_of_ble_eq_true rfl) rfl rfl ⟨Nat.le_of_ble_eq_true rfl, Nat.le_of_ble_eq_true rfl⟩ (fun H locs hP _ _ hS => ?_)
    refine W.eq (g2 := F0 m 19 ls [.int (bI o2)]) rfl ?_
    refine rb_eq (tgt := 24) hx hb dX11_kindHere_19 rfl (fun c19 => ?_) (fun c19 => ?_)
    · have h := br_n c19 h
      refine lv_aload_n hx hb dX11_kindHere_24 rfl (lv_at hl 0 rfl) ?_
      refine ldS X ((sfX X).2.2.2.2.2.2.2.2.2.2.2.2.2.2.2.1 8 _ rfl) dX11_kindHere_25 ?_
      refine lv_iload_n hx hb dX11_kindHere_27 rfl (lv_at hl 1 rfl) ?_
      obtain ⟨o3, hco3, h⟩ := bd_of h
      refine kV (rest := []) X dX11_kindHere_28 wd_5_131 mw_X11_isWord wd_5_133 wp_6_15 hP (k0 := 0) rfl rfl rfl hS (fun _ z => z) (c_X11_isWord (Nat.le_of_ble_eq_true rfl) hco3) rfl hl.1 rfl (Nat.le_of_ble_eq_true rfl) rfl rfl ⟨Nat.le_of_ble_eq_true rfl, Nat.le_of_ble_eq_true rfl⟩ (fun H locs hP _ _ hS => ?_)
      refine W.eq (g2 := F0 m 31 ls [.int (bI o3)]) rfl ?_
      refine rb_eq (tgt := 36) hx hb dX11_kindHere_31 rfl (fun c31 => ?_) (fun c31 => ?_)
      · have h := br_n c31 h
        refine lv_aload_n hx hb dX11_kindHere_36 rfl (lv_at hl 0 rfl) ?_
        refine ldS X ((sfX X).2.2.2.2.2.2.2.2.2.2.2.2.2.2.2.1 9 _ rfl) dX11_kindHere_37 ?_
        refine lv_iload_n hx hb dX11_kindHere_39 rfl (lv_at hl 1 rfl) ?_
        obtain ⟨o4, hco4, h⟩ := bd_of h
        refine kV (rest := []) X dX11_kindHere_40 wd_5_131 mw_X11_isWord wd_5_133 wp_6_15 hP (k0 := 0) rfl rfl rfl hS (fun _ z => z) (c_X11_isWord (Nat.le_of_ble_eq_true rfl) hco4) rfl hl.1 rfl (Nat.le_of_ble_eq_true rfl) rfl rfl ⟨Nat.le_of_ble_eq_true rfl, Nat.le_of_ble_eq_true rfl⟩ (fun H locs hP _ _ hS => ?_)
        refine W.eq (g2 := F0 m 43 ls [.int (bI o4)]) rfl ?_
        refine rb_eq (tgt := 48) hx hb dX11_kindHere_43 rfl (fun c43 => ?_) (fun c43 => ?_)
        · have h := br_n c43 h
          refine lv_aload_n hx hb dX11_kindHere_48 rfl (lv_at hl 0 rfl) ?_
          refine ldS X ((sfX X).2.2.2.2.2.2.2.2.2.2.2.2.2.2.2.1 10 _ rfl) dX11_kindHere_49 ?_
          refine lv_iload_n hx hb dX11_kindHere_51 rfl (lv_at hl 1 rfl) ?_
          obtain ⟨o5, hco5, h⟩ := bd_of h
          refine kV (rest := []) X dX11_kindHere_52 wd_5_131 mw_X11_isWord wd_5_133 wp_6_15 hP (k0 := 0) rfl rfl rfl hS (fun _ z => z) (c_X11_isWord (Nat.le_of_ble_eq_true rfl) hco5) rfl hl.1 rfl (Nat.le_of_ble_eq_true rfl) rfl rfl ⟨Nat.le_of_ble_eq_true rfl, Nat.le_of_ble_eq_true rfl⟩ (fun H locs hP _ _ hS => ?_)
          refine W.eq (g2 := F0 m 55 ls [.int (bI o5)]) rfl ?_
          refine rb_eq (tgt := 60) hx hb dX11_kindHere_55 rfl (fun c55 => ?_) (fun c55 => ?_)
          · have h := br_n c55 h
            refine lv_aload_n hx hb dX11_kindHere_60 rfl (lv_at hl 0 rfl) ?_
            refine ldS X ((sfX X).2.2.2.2.2.2.2.2.2.2.2.2.2.2.2.1 11 _ rfl) dX11_kindHere_61 ?_
            refine lv_iload_n hx hb dX11_kindHere_63 rfl (lv_at hl 1 rfl) ?_
            obtain ⟨o6, hco6, h⟩ := bd_of h
            refine kV (rest := []) X dX11_kindHere_64 wd_5_131 mw_X11_isWord wd_5_133 wp_6_15 hP (k0 := 0) rfl rfl rfl hS (fun _ z => z) (c_X11_isWord (Nat.le_of_ble_eq_true rfl) hco6) rfl hl.1 rfl (Nat.le_of_ble_eq_true rfl) rfl rfl ⟨Nat.le_of_ble_eq_true rfl, Nat.le_of_ble_eq_true rfl⟩ (fun H locs hP _ _ hS => ?_)
            refine W.eq (g2 := F0 m 67 ls [.int (bI o6)]) rfl ?_
            refine rb_eq (tgt := 72) hx hb dX11_kindHere_67 rfl (fun c67 => ?_) (fun c67 => ?_)
            · have h := br_n c67 h
              refine lv_aload_n hx hb dX11_kindHere_72 rfl (lv_at hl 0 rfl) ?_
              refine ldS X ((sfX X).2.2.2.2.2.2.2.2.2.2.2.2.2.2.2.1 12 _ rfl) dX11_kindHere_73 ?_
              refine lv_iload_n hx hb dX11_kindHere_75 rfl (lv_at hl 1 rfl) ?_
              obtain ⟨o7, hco7, h⟩ := bd_of h
              refine kV (rest := []) X dX11_kindHere_76 wd_5_131 mw_X11_isWord wd_5_133 wp_6_15 hP (k0 := 0) rfl rfl rfl hS (fun _ z => z) (c_X11_isWord (Nat.le_of_ble_eq_true rfl) hco7) rfl hl.1 rfl (Nat.le_of_ble_eq_true rfl) rfl rfl ⟨Nat.le_of_ble_eq_true rfl, Nat.le_of_ble_eq_true rfl⟩ (fun H locs hP _ _ hS => ?_)
              refine W.eq (g2 := F0 m 79 ls [.int (bI o7)]) rfl ?_
              refine rb_eq (tgt := 85) hx hb dX11_kindHere_79 rfl (fun c79 => ?_) (fun c79 => ?_)
              · have h := br_n c79 h
                refine lv_aload_n hx hb dX11_kindHere_85 rfl (lv_at hl 0 rfl) ?_
                refine ldS X ((sfX X).2.2.2.2.2.2.2.2.2.2.2.2.2.2.2.1 13 _ rfl) dX11_kindHere_86 ?_
                refine lv_iload_n hx hb dX11_kindHere_88 rfl (lv_at hl 1 rfl) ?_
                obtain ⟨o8, hco8, h⟩ := bd_of h
                refine kV (rest := []) X dX11_kindHere_89 wd_5_131 mw_X11_isWord wd_5_133 wp_6_15 hP (k0 := 0) rfl rfl rfl hS (fun _ z => z) (c_X11_isWord (Nat.le_of_ble_eq_true rfl) hco8) rfl hl.1 rfl (Nat.le_of_ble_eq_true rfl) rfl rfl ⟨Nat.le_of_ble_eq_true rfl, Nat.le_of_ble_eq_true rfl⟩ (fun H locs hP _ _ hS => ?_)
                refine W.eq (g2 := F0 m 92 ls [.int (bI o8)]) rfl ?_
                refine rb_eq (tgt := 98) hx hb dX11_kindHere_92 rfl (fun c92 => ?_) (fun c92 => ?_)
                · have h := br_n c92 h
                  refine lv_aload_n hx hb dX11_kindHere_98 rfl (lv_at hl 0 rfl) ?_
                  refine ldS X ((sfX X).2.2.2.2.2.2.2.2.2.2.2.2.2.2.2.1 14 _ rfl) dX11_kindHere_99 ?_
                  refine lv_iload_n hx hb dX11_kindHere_101 rfl (lv_at hl 1 rfl) ?_
                  obtain ⟨o9, hco9, h⟩ := bd_of h
                  refine kV (rest := []) X dX11_kindHere_102 wd_5_131 mw_X11_isWord wd_5_133 wp_6_15 hP (k0 := 0) rfl rfl rfl hS (fun _ z => z) (c_X11_isWord (Nat.le_of_ble_eq_true rfl) hco9) rfl hl.1 rfl (Nat.le_of_ble_eq_true rfl) rfl rfl ⟨Nat.le_of_ble_eq_true rfl, Nat.le_of_ble_eq_true rfl⟩ (fun H locs hP _ _ hS => ?_)
                  refine W.eq (g2 := F0 m 105 ls [.int (bI o9)]) rfl ?_
                  refine jx1 h (P := fun (v10 : Int32) => ∀ ls : Array Slot, lv_has ls 2 [] → W p l e rm_X11_kindHere s m args below meth c H locs 0 0 Q (F0 m 114 ls [.int v10])) ?_ ?_
                  · intro v10 h ls hl
                    exact ret h hP hS dX11_kindHere_114
                  · intro J h
                    refine rb_eq (tgt := 113) hx hb dX11_kindHere_105 rfl (fun c105 => ?_) (fun c105 => ?_)
                    · refine lv_iconst (v := (-1)) hx hb dX11_kindHere_113 rfl ?_
                      exact J _ (lt_in c105 h) ls (lv_sub hl [] rfl)
                    · refine lv_bipush (v := 8) hx hb dX11_kindHere_108 rfl ?_
                      refine lv_goto (tgt := 114) hx hb dX11_kindHere_110 rfl ?_
                      exact J _ (lt_ip c105 h) ls (lv_sub hl [] rfl)
                · have h := br_p c92 h
                  refine lv_bipush (v := 7) hx hb dX11_kindHere_95 rfl ?_
                  exact ret h hP hS dX11_kindHere_97
              · have h := br_p c79 h
                refine lv_bipush (v := 6) hx hb dX11_kindHere_82 rfl ?_
                exact ret h hP hS dX11_kindHere_84
            · have h := br_p c67 h
              refine lv_iconst (v := 5) hx hb dX11_kindHere_70 rfl ?_
              exact ret h hP hS dX11_kindHere_71
          · have h := br_p c55 h
            refine lv_iconst (v := 4) hx hb dX11_kindHere_58 rfl ?_
            exact ret h hP hS dX11_kindHere_59
        · have h := br_p c43 h
          refine lv_iconst (v := 3) hx hb dX11_kindHere_46 rfl ?_
          exact ret h hP hS dX11_kindHere_47
      · have h := br_p c31 h
        refine lv_iconst (v := 2) hx hb dX11_kindHere_34 rfl ?_
        exact ret h hP hS dX11_kindHere_35
    · have h := br_p c19 h
      refine lv_iconst (v := 1) hx hb dX11_kindHere_22 rfl ?_
      exact ret h hP hS dX11_kindHere_23
  · have h := br_p c7 h
    refine lv_iconst (v := 0) hx hb dX11_kindHere_10 rfl ?_
    exact ret h hP hS dX11_kindHere_11
abbrev rm_X11_namesOf : Room := { frames := 0, cells := 0, slots := 0, locals := 0 }
set_option maxRecDepth 100000 in
set_option maxHeartbeats 4000000 in
theorem c_X11_namesOf {g : gT} {l : Launch} {A : Nat → Prop} {w : va_W} {p0 : Int32} {o : Int32} (h : f_X11_namesOf p0  = some o) : Std g l yX11_namesOf (.code yX11_namesOf cX11_namesOf 1 (some .int) :: gw) rm_X11_namesOf A [.int p0] w w (some (.int o)) := by
  refine std_i (own := RX11) (by decide +kernel) rfl (Nat.le_of_ble_eq_true rfl) ?_
  intro p e s m args below meth c Q X ret H locs hP hS ls hl
  have hx := X.1
  have hb := X.2.1
  have hl : lv_has ls 1 [(0, .int p0)] := hl
  have ret : ∀ {H : Heap} {locs : List Loc} {pc : Nat} {ls : Array Slot} {v : Int32} , some (v) = some o → WP g A w H → va_S A s.heap H locs → decode cX11_namesOf pc = .ok (.ireturn, 1) → W p l e rm_X11_namesOf s m args below meth c H locs 0 0 Q (F0 m pc ls [.int v]) := by
    intro H locs pc ls v h hP hS hd
    cases h
    exact ret hP hS hd
  unfold f_X11_namesOf at h
  refine lv_iload_n hx hb dX11_namesOf_0 rfl (lv_at hl 0 rfl) ?_
  refine lv_bipush (v := 8) hx hb dX11_namesOf_1 rfl ?_
  refine jx1 h (P := fun (v1 : Int32) => ∀ ls : Array Slot, lv_has ls 1 [] → W p l e rm_X11_namesOf s m args below meth c H locs 0 0 Q (F0 m 30 ls [.int v1])) ?_ ?_
  · intro v1 h ls hl
    exact ret h hP hS dX11_namesOf_30
  · intro J h
    refine lv_icmp_ne (tgt := 10) hx hb dX11_namesOf_3 rfl (fun c3 => ?_) (fun c3 => ?_)
    · refine lv_iload_n hx hb dX11_namesOf_10 rfl (lv_at hl 0 rfl) ?_
      refine lv_iconst (v := 1) hx hb dX11_namesOf_11 rfl ?_
      refine lv_icmp_eq (tgt := 25) hx hb dX11_namesOf_12 rfl (fun c12 => ?_) (fun c12 => ?_)
      · refine lv_iconst (v := 2) hx hb dX11_namesOf_25 rfl ?_
        refine lv_goto (tgt := 30) hx hb dX11_namesOf_26 rfl ?_
        exact J _ (lt_ip c12 (lt_in c3 h)) ls (lv_sub hl [] rfl)
      · refine lv_iload_n hx hb dX11_namesOf_15 rfl (lv_at hl 0 rfl) ?_
        refine lv_iconst (v := 2) hx hb dX11_namesOf_16 rfl ?_
        refine lv_icmp_eq (tgt := 25) hx hb dX11_namesOf_17 rfl (fun c17 => ?_) (fun c17 => ?_)
        · refine lv_iconst (v := 2) hx hb dX11_namesOf_25 rfl ?_
          refine lv_goto (tgt := 30) hx hb dX11_namesOf_26 rfl ?_
          exact J _ (lt_ip c17 (lt_in c12 (lt_in c3 h))) ls (lv_sub hl [] rfl)
        · refine lv_iload_n hx hb dX11_namesOf_20 rfl (lv_at hl 0 rfl) ?_
          refine lv_iconst (v := 3) hx hb dX11_namesOf_21 rfl ?_
          refine lv_icmp_ne (tgt := 29) hx hb dX11_namesOf_22 rfl (fun c22 => ?_) (fun c22 => ?_)
          · refine lv_iconst (v := 1) hx hb dX11_namesOf_29 rfl ?_
            exact J _ (lt_in c22 (lt_in c17 (lt_in c12 (lt_in c3 h)))) ls (lv_sub hl [] rfl)
          · refine lv_iconst (v := 2) hx hb dX11_namesOf_25 rfl ?_
            refine lv_goto (tgt := 30) hx hb dX11_namesOf_26 rfl ?_
            exact J _ (lt_ip c22 (lt_in c17 (lt_in c12 (lt_in c3 h)))) ls (lv_sub hl [] rfl)
    · refine lv_iconst (v := 3) hx hb dX11_namesOf_6 rfl ?_
      refine lv_goto (tgt := 30) hx hb dX11_namesOf_7 rfl ?_
      exact J _ (lt_ip c3 h) ls (lv_sub hl [] rfl)
