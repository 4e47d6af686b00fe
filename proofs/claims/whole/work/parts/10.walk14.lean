abbrev rm_X11_off : Room := { frames := 1, cells := 0, slots := 0, locals := 27 }
set_option maxRecDepth 100000 in
set_option maxHeartbeats 4000000 in
theorem c_X11_off {g : gT} {l : Launch} {A : Nat → Prop} {q : Nat → Nat} {m_thrown : Int32} {m_length : Int32} {m_at : Int32} {m_fault : Int32} {m_toldWords : Int32} {m_orders : Int32} {m_value : Int32} {m_hasUnit : Bool} {m_places : Int32} {m_clocks : Int32} {m_held : Bool} {m_x : Int64} {m_y : Int64} {m_z : Int64} {m_first : Int64} {m_second : Int64} {m_aside : Int32} {m_jobs : Int32} {m_jobsImage : Int32} {m_clocksImage : Int32} {m_heldImage : Bool} {m_hasImage : Bool} {m_tape : Nat → Int32} {m_read : Nat → Int32} {m_order : Nat → Int32} {m_width : Nat → Int32} {m_guard : Nat → Int32} {m_points : Nat → Int32} {m_stages : Nat → Int32} {m_gain : Nat → Int32} {m_undo : Nat → Int32} {m_near : Nat → Bool} {m_quarter : Nat → Int64} {m_ln : Nat → Int64} {m_angle : Nat → Int64} {m_shift : Nat → Int32} {m_digit : Nat → Int32} {m_refused : Nat → Int32} {m_job : Nat → Int32} {m_jobKept : Nat → Int32} {m_result : Nat → Int32} {m_resultKept : Nat → Int32} {m_trace : Nat → Int64} {m_traceKept : Nat → Int64} {m_jobImage : Nat → Int32} {m_resultImage : Nat → Int32} {m_traceImage : Nat → Int64} {p0 : Int32} {o : Int32 × Int32} (h : f_X11_off p0 m_thrown m_hasUnit m_guard m_stages m_angle = some o) : Std g l yX11_off (.code yX11_off cX11_off 2 (some .int) :: gw) rm_X11_off A [.ref (q 0), .int p0] (wM g q m_thrown m_length m_at m_fault m_toldWords m_orders m_value m_hasUnit m_places m_clocks m_held m_x m_y m_z m_first m_second m_aside m_jobs m_jobsImage m_clocksImage m_heldImage m_hasImage m_tape m_read m_order m_width m_guard m_points m_stages m_gain m_undo m_near m_quarter m_ln m_angle m_shift m_digit m_refused m_job m_jobKept m_result m_resultKept m_trace m_traceKept m_jobImage m_resultImage m_traceImage) (wM g q o.2 m_length m_at m_fault m_toldWords m_orders m_value m_hasUnit m_places m_clocks m_held m_x m_y m_z m_first m_second m_aside m_jobs m_jobsImage m_clocksImage m_heldImage m_hasImage m_tape m_read m_order m_width m_guard m_points m_stages m_gain m_undo m_near m_quarter m_ln m_angle m_shift m_digit m_refused m_job m_jobKept m_result m_resultKept m_trace m_traceKept m_jobImage m_resultImage m_traceImage) (some (.int o.1)) := by
  refine std_i (own := RX11) (by decide +kernel) rfl (Nat.le_of_ble_eq_true rfl) ?_
  intro p e s m args below meth c Q X ret H locs hP hS ls hl
  have hx := X.1
  have hb := X.2.1
  have hl : lv_has ls 2 [(0, .ref (q 0)), (1, .int p0)] := hl
  have ret : ∀ {H : Heap} {locs : List Loc} {pc : Nat} {ls : Array Slot} {v : Int32} {m_thrown : Int32}, some (v, m_thrown) = some o → WP g A (wM g q m_thrown m_length m_at m_fault m_toldWords m_orders m_value m_hasUnit m_places m_clocks m_held m_x m_y m_z m_first m_second m_aside m_jobs m_jobsImage m_clocksImage m_heldImage m_hasImage m_tape m_read m_order m_width m_guard m_points m_stages m_gain m_undo m_near m_quarter m_ln m_angle m_shift m_digit m_refused m_job m_jobKept m_result m_resultKept m_trace m_traceKept m_jobImage m_resultImage m_traceImage) H → va_S A s.heap H locs → decode cX11_off pc = .ok (.ireturn, 1) → W p l e rm_X11_off s m args below meth c H locs 0 0 Q (F0 m pc ls [.int v]) := by
    intro H locs pc ls v m_thrown h hP hS hd
    cases h
    exact ret hP hS hd
  unfold f_X11_off at h
  refine lv_aload_n hx hb dX11_off_0 rfl (lv_at hl 0 rfl) ?_
  refine lv_iconst (v := 0) hx hb dX11_off_1 rfl ?_
  refine pf_X11_5_M_0 (v0 := (0 : Int32)) X hP hS dX11_off_2 (fun H locs hP hS => ?_)
  refine lv_aload_n hx hb dX11_off_5 rfl (lv_at hl 0 rfl) ?_
  refine lv_iload_n hx hb dX11_off_6 rfl (lv_at hl 1 rfl) ?_
  obtain ⟨o1, hco1, h⟩ := bd_of h
  refine kV (rest := []) X dX11_off_7 wd_7_33 mw_X11_hasOff wd_7_35 wp_8_12 hP (k0 := 0) rfl rfl rfl hS (fun _ z => z) (c_X11_hasOff hco1) rfl hl.1 rfl (Nat.le_of_ble_eq_true rfl) rfl rfl ⟨Nat.le_of_ble_eq_true rfl, Nat.le_of_ble_eq_true rfl⟩ (fun H locs hP _ _ hS => ?_)
  refine W.eq (g2 := F0 m 10 ls [.int (bI o1)]) rfl ?_
  refine rb_eq (tgt := 28) hx hb dX11_off_10 rfl (fun c10 => ?_) (fun c10 => ?_)
  · have h := br_n c10 h
    refine lv_iconst (v := (-1)) hx hb dX11_off_28 rfl ?_
    exact ret h hP hS dX11_off_29
  · have h := br_p c10 h
    refine lv_aload_n hx hb dX11_off_13 rfl (lv_at hl 0 rfl) ?_
    refine lv_iload_n hx hb dX11_off_14 rfl (lv_at hl 1 rfl) ?_
    refine lv_aload_n hx hb dX11_off_15 rfl (lv_at hl 0 rfl) ?_
    refine gf_X11_171_M_0 X hP dX11_off_16 ?_
    refine lv_iconst (v := 0) hx hb dX11_off_19 rfl ?_
    obtain ⟨hi20, h⟩ := gv_of h
    refine al_M_7 X hP hi20 dX11_off_20 ?_
    obtain ⟨o2, hco2, h⟩ := bd_of h
    refine kV (rest := []) X dX11_off_21 wd_7_37 mw_X11_offBy wd_7_39 wp_8_13 hP (k0 := 0) rfl rfl rfl hS (fun _ z => z) (c_X11_offBy hco2) rfl hl.1 rfl (Nat.le_of_ble_eq_true rfl) rfl rfl ⟨Nat.le_of_ble_eq_true rfl, Nat.le_of_ble_eq_true rfl⟩ (fun H locs hP _ _ hS => ?_)
    refine W.eq (g2 := F0 m 24 ls [.long o2]) rfl ?_
    refine lv_l2i hx hb dX11_off_24 rfl ?_
    refine lv_goto (tgt := 29) hx hb dX11_off_25 rfl ?_
    exact ret h hP hS dX11_off_29
abbrev rm_X11_fewest : Room := { frames := 1, cells := 0, slots := 0, locals := 27 }
set_option maxRecDepth 100000 in
set_option maxHeartbeats 4000000 in
theorem c_X11_fewest {g : gT} {l : Launch} {A : Nat → Prop} {q : Nat → Nat} {m_thrown : Int32} {m_length : Int32} {m_at : Int32} {m_fault : Int32} {m_toldWords : Int32} {m_orders : Int32} {m_value : Int32} {m_hasUnit : Bool} {m_places : Int32} {m_clocks : Int32} {m_held : Bool} {m_x : Int64} {m_y : Int64} {m_z : Int64} {m_first : Int64} {m_second : Int64} {m_aside : Int32} {m_jobs : Int32} {m_jobsImage : Int32} {m_clocksImage : Int32} {m_heldImage : Bool} {m_hasImage : Bool} {m_tape : Nat → Int32} {m_read : Nat → Int32} {m_order : Nat → Int32} {m_width : Nat → Int32} {m_guard : Nat → Int32} {m_points : Nat → Int32} {m_stages : Nat → Int32} {m_gain : Nat → Int32} {m_undo : Nat → Int32} {m_near : Nat → Bool} {m_quarter : Nat → Int64} {m_ln : Nat → Int64} {m_angle : Nat → Int64} {m_shift : Nat → Int32} {m_digit : Nat → Int32} {m_refused : Nat → Int32} {m_job : Nat → Int32} {m_jobKept : Nat → Int32} {m_result : Nat → Int32} {m_resultKept : Nat → Int32} {m_trace : Nat → Int64} {m_traceKept : Nat → Int64} {m_jobImage : Nat → Int32} {m_resultImage : Nat → Int32} {m_traceImage : Nat → Int64} {p0 : Int32} {p1 : Int32} {o : Int32 × Int32} (h : f_X11_fewest p0 p1 m_thrown m_hasUnit m_guard m_angle = some o) : Std g l yX11_fewest (.code yX11_fewest cX11_fewest 4 (some .int) :: gw) rm_X11_fewest A [.ref (q 0), .int p0, .int p1] (wM g q m_thrown m_length m_at m_fault m_toldWords m_orders m_value m_hasUnit m_places m_clocks m_held m_x m_y m_z m_first m_second m_aside m_jobs m_jobsImage m_clocksImage m_heldImage m_hasImage m_tape m_read m_order m_width m_guard m_points m_stages m_gain m_undo m_near m_quarter m_ln m_angle m_shift m_digit m_refused m_job m_jobKept m_result m_resultKept m_trace m_traceKept m_jobImage m_resultImage m_traceImage) (wM g q o.2 m_length m_at m_fault m_toldWords m_orders m_value m_hasUnit m_places m_clocks m_held m_x m_y m_z m_first m_second m_aside m_jobs m_jobsImage m_clocksImage m_heldImage m_hasImage m_tape m_read m_order m_width m_guard m_points m_stages m_gain m_undo m_near m_quarter m_ln m_angle m_shift m_digit m_refused m_job m_jobKept m_result m_resultKept m_trace m_traceKept m_jobImage m_resultImage m_traceImage) (some (.int o.1)) := by
  refine std_i (own := RX11) (by decide +kernel) rfl (Nat.le_of_ble_eq_true rfl) ?_
  intro p e s m args below meth c Q X ret H locs hP hS ls hl
  have hx := X.1
  have hb := X.2.1
  have hl : lv_has ls 4 [(0, .ref (q 0)), (1, .int p0), (2, .int p1)] := hl
  have ret : ∀ {H : Heap} {locs : List Loc} {pc : Nat} {ls : Array Slot} {v : Int32} {m_thrown : Int32}, some (v, m_thrown) = some o → WP g A (wM g q m_thrown m_length m_at m_fault m_toldWords m_orders m_value m_hasUnit m_places m_clocks m_held m_x m_y m_z m_first m_second m_aside m_jobs m_jobsImage m_clocksImage m_heldImage m_hasImage m_tape m_read m_order m_width m_guard m_points m_stages m_gain m_undo m_near m_quarter m_ln m_angle m_shift m_digit m_refused m_job m_jobKept m_result m_resultKept m_trace m_traceKept m_jobImage m_resultImage m_traceImage) H → va_S A s.heap H locs → decode cX11_fewest pc = .ok (.ireturn, 1) → W p l e rm_X11_fewest s m args below meth c H locs 0 0 Q (F0 m pc ls [.int v]) := by
    intro H locs pc ls v m_thrown h hP hS hd
    cases h
    exact ret hP hS hd
  have l17 : ∀ (n : Nat), ∀ (x1 : Int32) (x2 : Int32) (x3 : Int32) (m_thrown : Int32) (H : Heap) (locs : List Loc) (ls : Array Slot), f_X11_fewest_l17  m_hasUnit m_guard m_angle  n x1 x2 x3 m_thrown = some o → WP g A (wM g q m_thrown m_length m_at m_fault m_toldWords m_orders m_value m_hasUnit m_places m_clocks m_held m_x m_y m_z m_first m_second m_aside m_jobs m_jobsImage m_clocksImage m_heldImage m_hasImage m_tape m_read m_order m_width m_guard m_points m_stages m_gain m_undo m_near m_quarter m_ln m_angle m_shift m_digit m_refused m_job m_jobKept m_result m_resultKept m_trace m_traceKept m_jobImage m_resultImage m_traceImage) H → va_S A s.heap H locs → lv_has ls 4 [(0, .ref (q 0)), (1, .int x1), (2, .int x2), (3, .int x3)] → W p l e rm_X11_fewest s m args below meth c H locs 0 0 Q (F0 m 17 ls []) := by
    intro  n
    induction n with
    | zero =>
      intro x1 x2 x3 m_thrown H locs ls h
      exact nz_of h
    | succ n ih =>
      intro x1 x2 x3 m_thrown H locs ls h hP hS hl
      rw [f_X11_fewest_l17] at h
      refine lv_iload_n hx hb dX11_fewest_17 rfl (lv_at hl 3 rfl) ?_
      refine lv_bipush (v := 24) hx hb dX11_fewest_18 rfl ?_
      refine lv_icmp_gt (tgt := 43) hx hb dX11_fewest_20 rfl (fun c20 => ?_) (fun c20 => ?_)
      · have h := br_p c20 h
        refine lv_iconst (v := (-1)) hx hb dX11_fewest_43 rfl ?_
        exact ret h hP hS dX11_fewest_44
      · have h := br_n c20 h
        refine lv_aload_n hx hb dX11_fewest_23 rfl (lv_at hl 0 rfl) ?_
        refine lv_iload_n hx hb dX11_fewest_24 rfl (lv_at hl 1 rfl) ?_
        refine lv_iload_n hx hb dX11_fewest_25 rfl (lv_at hl 3 rfl) ?_
        obtain ⟨o2, hco2, h⟩ := bd_of h
        refine kV (rest := []) X dX11_fewest_26 wd_7_37 mw_X11_offBy wd_7_39 wp_8_13 hP (k0 := 0) rfl rfl rfl hS (fun _ z => z) (c_X11_offBy hco2) rfl hl.1 rfl (Nat.le_of_ble_eq_true rfl) rfl rfl ⟨Nat.le_of_ble_eq_true rfl, Nat.le_of_ble_eq_true rfl⟩ (fun H locs hP _ _ hS => ?_)
        refine W.eq (g2 := F0 m 29 ls [.long o2]) rfl ?_
        refine lv_iload_n hx hb dX11_fewest_29 rfl (lv_at hl 2 rfl) ?_
        refine lv_i2l hx hb dX11_fewest_30 rfl ?_
        refine rl_gt (tgt := 37) hx hb dX11_fewest_31 dX11_fewest_32 rfl (fun c31 => ?_) (fun c31 => ?_)
        · have h := br_p c31 h
          obtain ⟨v3, ev3⟩ : ∃ z : Int32, z = (x3 + 1) := ⟨_, rfl⟩
          have h := lt_at ev3 h
          refine lv_iinc (v := v3) (lv' := [(3, .int v3), (0, .ref (q 0)), (1, .int x1), (2, .int x2)]) hx hb dX11_fewest_37 hl (k := 3) rfl (by rw [ev3]; rfl) (by decide) rfl (fun ls hl => ?_)
          refine lv_goto (tgt := 17) hx hb dX11_fewest_40 rfl ?_
          exact ih x1 x2 v3 m_thrown _ _ _ h hP hS (lv_sub hl [1, 2, 3, 0] rfl)
        · have h := br_n c31 h
          refine lv_iload_n hx hb dX11_fewest_35 rfl (lv_at hl 3 rfl) ?_
          exact ret h hP hS dX11_fewest_36
  unfold f_X11_fewest at h
  refine lv_aload_n hx hb dX11_fewest_0 rfl (lv_at hl 0 rfl) ?_
  refine lv_iconst (v := 0) hx hb dX11_fewest_1 rfl ?_
  refine pf_X11_5_M_0 (v0 := (0 : Int32)) X hP hS dX11_fewest_2 (fun H locs hP hS => ?_)
  refine lv_aload_n hx hb dX11_fewest_5 rfl (lv_at hl 0 rfl) ?_
  refine lv_iload_n hx hb dX11_fewest_6 rfl (lv_at hl 1 rfl) ?_
  obtain ⟨o1, hco1, h⟩ := bd_of h
  refine kV (rest := []) X dX11_fewest_7 wd_7_33 mw_X11_hasOff wd_7_35 wp_8_12 hP (k0 := 0) rfl rfl rfl hS (fun _ z => z) (c_X11_hasOff hco1) rfl hl.1 rfl (Nat.le_of_ble_eq_true rfl) rfl rfl ⟨Nat.le_of_ble_eq_true rfl, Nat.le_of_ble_eq_true rfl⟩ (fun H locs hP _ _ hS => ?_)
  refine W.eq (g2 := F0 m 10 ls [.int (bI o1)]) rfl ?_
  refine rb_ne (tgt := 15) hx hb dX11_fewest_10 rfl (fun c10 => ?_) (fun c10 => ?_)
  · have h := br_p c10 h
    refine lv_iconst (v := 5) hx hb dX11_fewest_15 rfl ?_
    refine lv_istore_n (lv' := [(3, .int 5), (0, .ref (q 0)), (1, .int p0), (2, .int p1)]) hx hb dX11_fewest_16 rfl hl (by decide) rfl (fun ls hl => ?_)
    exact l17  FU p0 p1 (5 : Int32) (0 : Int32) _ _ _ h hP hS (lv_sub hl [1, 2, 3, 0] rfl)
  · have h := br_n c10 h
    refine lv_iconst (v := (-1)) hx hb dX11_fewest_13 rfl ?_
    exact ret h hP hS dX11_fewest_14
abbrev rm_X11_of : Room := { frames := 0, cells := 0, slots := 0, locals := 0 }
set_option maxRecDepth 100000 in
set_option maxHeartbeats 4000000 in
theorem c_X11_of {g : gT} {l : Launch} {A : Nat → Prop} {q : Nat → Nat} {m_thrown : Int32} {m_length : Int32} {m_at : Int32} {m_fault : Int32} {m_toldWords : Int32} {m_orders : Int32} {m_value : Int32} {m_hasUnit : Bool} {m_places : Int32} {m_clocks : Int32} {m_held : Bool} {m_x : Int64} {m_y : Int64} {m_z : Int64} {m_first : Int64} {m_second : Int64} {m_aside : Int32} {m_jobs : Int32} {m_jobsImage : Int32} {m_clocksImage : Int32} {m_heldImage : Bool} {m_hasImage : Bool} {m_tape : Nat → Int32} {m_read : Nat → Int32} {m_order : Nat → Int32} {m_width : Nat → Int32} {m_guard : Nat → Int32} {m_points : Nat → Int32} {m_stages : Nat → Int32} {m_gain : Nat → Int32} {m_undo : Nat → Int32} {m_near : Nat → Bool} {m_quarter : Nat → Int64} {m_ln : Nat → Int64} {m_angle : Nat → Int64} {m_shift : Nat → Int32} {m_digit : Nat → Int32} {m_refused : Nat → Int32} {m_job : Nat → Int32} {m_jobKept : Nat → Int32} {m_result : Nat → Int32} {m_resultKept : Nat → Int32} {m_trace : Nat → Int64} {m_traceKept : Nat → Int64} {m_jobImage : Nat → Int32} {m_resultImage : Nat → Int32} {m_traceImage : Nat → Int64} {p0 : Int32} {p1 : Int32} {o : Int32} (h : f_X11_of p0 p1 m_job = some o) : Std g l yX11_of (.code yX11_of cX11_of 3 (some .int) :: gw) rm_X11_of A [.ref (q 0), .int p0, .int p1] (wM g q m_thrown m_length m_at m_fault m_toldWords m_orders m_value m_hasUnit m_places m_clocks m_held m_x m_y m_z m_first m_second m_aside m_jobs m_jobsImage m_clocksImage m_heldImage m_hasImage m_tape m_read m_order m_width m_guard m_points m_stages m_gain m_undo m_near m_quarter m_ln m_angle m_shift m_digit m_refused m_job m_jobKept m_result m_resultKept m_trace m_traceKept m_jobImage m_resultImage m_traceImage) (wM g q m_thrown m_length m_at m_fault m_toldWords m_orders m_value m_hasUnit m_places m_clocks m_held m_x m_y m_z m_first m_second m_aside m_jobs m_jobsImage m_clocksImage m_heldImage m_hasImage m_tape m_read m_order m_width m_guard m_points m_stages m_gain m_undo m_near m_quarter m_ln m_angle m_shift m_digit m_refused m_job m_jobKept m_result m_resultKept m_trace m_traceKept m_jobImage m_resultImage m_traceImage) (some (.int o)) := by
  refine std_i (own := RX11) (by decide +kernel) rfl (Nat.le_of_ble_eq_true rfl) ?_
  intro p e s m args below meth c Q X ret H locs hP hS ls hl
  have hx := X.1
  have hb := X.2.1
  have hl : lv_has ls 3 [(0, .ref (q 0)), (1, .int p0), (2, .int p1)] := hl
  have ret : ∀ {H : Heap} {locs : List Loc} {pc : Nat} {ls : Array Slot} {v : Int32} , some (v) = some o → WP g A (wM g q m_thrown m_length m_at m_fault m_toldWords m_orders m_value m_hasUnit m_places m_clocks m_held m_x m_y m_z m_first m_second m_aside m_jobs m_jobsImage m_clocksImage m_heldImage m_hasImage m_tape m_read m_order m_width m_guard m_points m_stages m_gain m_undo m_near m_quarter m_ln m_angle m_shift m_digit m_refused m_job m_jobKept m_result m_resultKept m_trace m_traceKept m_jobImage m_resultImage m_traceImage) H → va_S A s.heap H locs → decode cX11_of pc = .ok (.ireturn, 1) → W p l e rm_X11_of s m args below meth c H locs 0 0 Q (F0 m pc ls [.int v]) := by
    intro H locs pc ls v h hP hS hd
    cases h
    exact ret hP hS hd
  unfold f_X11_of at h
  refine lv_aload_n hx hb dX11_of_0 rfl (lv_at hl 0 rfl) ?_
  refine gf_X11_226_M_0 X hP dX11_of_1 ?_
  refine lv_bipush (v := 14) hx hb dX11_of_4 rfl ?_
  refine lv_iload_n hx hb dX11_of_6 rfl (lv_at hl 1 rfl) ?_
  refine lv_imul hx hb dX11_of_7 ?_
  refine lv_iload_n hx hb dX11_of_8 rfl (lv_at hl 2 rfl) ?_
  refine lv_iadd hx hb dX11_of_9 ?_
  obtain ⟨hi10, h⟩ := gv_of h
  refine al_M_17 X hP hi10 dX11_of_10 ?_
  exact ret h hP hS dX11_of_11
abbrev rm_X11_isJob : Room := { frames := 1, cells := 0, slots := 0, locals := 25 }
set_option maxRecDepth 100000 in
set_option maxHeartbeats 4000000 in
theorem c_X11_isJob {g : gT} {l : Launch} {A : Nat → Prop} {q : Nat → Nat} {m_thrown : Int32} {m_length : Int32} {m_at : Int32} {m_fault : Int32} {m_toldWords : Int32} {m_orders : Int32} {m_value : Int32} {m_hasUnit : Bool} {m_places : Int32} {m_clocks : Int32} {m_held : Bool} {m_x : Int64} {m_y : Int64} {m_z : Int64} {m_first : Int64} {m_second : Int64} {m_aside : Int32} {m_jobs : Int32} {m_jobsImage : Int32} {m_clocksImage : Int32} {m_heldImage : Bool} {m_hasImage : Bool} {m_tape : Nat → Int32} {m_read : Nat → Int32} {m_order : Nat → Int32} {m_width : Nat → Int32} {m_guard : Nat → Int32} {m_points : Nat → Int32} {m_stages : Nat → Int32} {m_gain : Nat → Int32} {m_undo : Nat → Int32} {m_near : Nat → Bool} {m_quarter : Nat → Int64} {m_ln : Nat → Int64} {m_angle : Nat → Int64} {m_shift : Nat → Int32} {m_digit : Nat → Int32} {m_refused : Nat → Int32} {m_job : Nat → Int32} {m_jobKept : Nat → Int32} {m_result : Nat → Int32} {m_resultKept : Nat → Int32} {m_trace : Nat → Int64} {m_traceKept : Nat → Int64} {m_jobImage : Nat → Int32} {m_resultImage : Nat → Int32} {m_traceImage : Nat → Int64} {p0 : Int32} {o : Bool} (h : f_X11_isJob p0 m_hasUnit m_jobs = some o) : Std g l yX11_isJob (.code yX11_isJob cX11_isJob 2 (some .boolean) :: gw) rm_X11_isJob A [.ref (q 0), .int p0] (wM g q m_thrown m_length m_at m_fault m_toldWords m_orders m_value m_hasUnit m_places m_clocks m_held m_x m_y m_z m_first m_second m_aside m_jobs m_jobsImage m_clocksImage m_heldImage m_hasImage m_tape m_read m_order m_width m_guard m_points m_stages m_gain m_undo m_near m_quarter m_ln m_angle m_shift m_digit m_refused m_job m_jobKept m_result m_resultKept m_trace m_traceKept m_jobImage m_resultImage m_traceImage) (wM g q m_thrown m_length m_at m_fault m_toldWords m_orders m_value m_hasUnit m_places m_clocks m_held m_x m_y m_z m_first m_second m_aside m_jobs m_jobsImage m_clocksImage m_heldImage m_hasImage m_tape m_read m_order m_width m_guard m_points m_stages m_gain m_undo m_near m_quarter m_ln m_angle m_shift m_digit m_refused m_job m_jobKept m_result m_resultKept m_trace m_traceKept m_jobImage m_resultImage m_traceImage) (some (.int (bI o))) := by
  refine std_z (own := RX11) (by decide +kernel) rfl (Nat.le_of_ble_eq_true rfl) ?_
  intro p e s m args below meth c Q X ret H locs hP hS ls hl
  have hx := X.1
  have hb := X.2.1
  have hl : lv_has ls 2 [(0, .ref (q 0)), (1, .int p0)] := hl
  have ret : ∀ {H : Heap} {locs : List Loc} {pc : Nat} {ls : Array Slot} {v : Bool} , some (v) = some o → WP g A (wM g q m_thrown m_length m_at m_fault m_toldWords m_orders m_value m_hasUnit m_places m_clocks m_held m_x m_y m_z m_first m_second m_aside m_jobs m_jobsImage m_clocksImage m_heldImage m_hasImage m_tape m_read m_order m_width m_guard m_points m_stages m_gain m_undo m_near m_quarter m_ln m_angle m_shift m_digit m_refused m_job m_jobKept m_result m_resultKept m_trace m_traceKept m_jobImage m_resultImage m_traceImage) H → va_S A s.heap H locs → decode cX11_isJob pc = .ok (.ireturn, 1) → W p l e rm_X11_isJob s m args below meth c H locs 0 0 Q (F0 m pc ls [.int (bI v)]) := by
    intro H locs pc ls v h hP hS hd
    cases h
    exact ret hP hS hd
  have b27 : ∀  (H : Heap) (locs : List Loc) (ls : Array Slot), f_X11_isJob_b27  m_hasUnit m_jobs   = some o → WP g A (wM g q m_thrown m_length m_at m_fault m_toldWords m_orders m_value m_hasUnit m_places m_clocks m_held m_x m_y m_z m_first m_second m_aside m_jobs m_jobsImage m_clocksImage m_heldImage m_hasImage m_tape m_read m_order m_width m_guard m_points m_stages m_gain m_undo m_near m_quarter m_ln m_angle m_shift m_digit m_refused m_job m_jobKept m_result m_resultKept m_trace m_traceKept m_jobImage m_resultImage m_traceImage) H → va_S A s.heap H locs → lv_has ls 2 [] → W p l e rm_X11_isJob s m args below meth c H locs 0 0 Q (F0 m 27 ls []) := by
    intro   H locs ls h hP hS hl
    unfold f_X11_isJob_b27 at h
    refine lv_iconst (v := 0) hx hb dX11_isJob_27 rfl ?_
    exact ret h hP hS dX11_isJob_28
  unfold f_X11_isJob at h
  refine lv_aload_n hx hb dX11_isJob_0 rfl (lv_at hl 0 rfl) ?_
  refine gf_X11_260_M_0 X hP dX11_isJob_1 ?_
  refine rb_eq (tgt := 27) hx hb dX11_isJob_4 rfl (fun c4 => ?_) (fun c4 => ?_)
  · have h := br_n c4 h
    exact b27    _ _ _ h hP hS (lv_sub hl [] rfl)
  · have h := br_p c4 h
    refine lv_iload_n hx hb dX11_isJob_7 rfl (lv_at hl 1 rfl) ?_
    refine lv_i2l hx hb dX11_isJob_8 rfl ?_
    refine lv_lconst (v := 0) hx hb dX11_isJob_9 rfl ?_
    refine lv_aload_n hx hb dX11_isJob_10 rfl (lv_at hl 0 rfl) ?_
    refine gf_X11_273_M_0 X hP dX11_isJob_11 ?_
    refine lv_iconst (v := 1) hx hb dX11_isJob_14 rfl ?_
    refine lv_isub hx hb dX11_isJob_15 ?_
    refine lv_i2l hx hb dX11_isJob_16 rfl ?_
    obtain ⟨o1, hco1, h⟩ := bd_of h
    refine kS (rest := []) X dX11_isJob_17 wd_5_153 mw_X11_isIn wd_5_154 hP hS (fun _ z => z) (c_X11_isIn hco1) rfl hl.1 rfl (Nat.le_of_ble_eq_true rfl) rfl rfl ⟨Nat.le_of_ble_eq_true rfl, Nat.le_of_ble_eq_true rfl⟩ (fun H locs hP _ _ hS => ?_)
    refine W.eq (g2 := F0 m 20 ls [.int (bI o1)]) rfl ?_
    refine jx1 h (P := fun (v2 : Bool) => ∀ ls : Array Slot, lv_has ls 2 [] → W p l e rm_X11_isJob s m args below meth c H locs 0 0 Q (F0 m 28 ls [.int (bI v2)])) ?_ ?_
    · intro v2 h ls hl
      exact ret h hP hS dX11_isJob_28
    · intro J h
      refine rb_eq (tgt := 27) hx hb dX11_isJob_20 rfl (fun c20 => ?_) (fun c20 => ?_)
      · refine lv_iconst (v := 0) hx hb dX11_isJob_27 rfl ?_
        exact J _ (lt_in c20 h) ls (lv_sub hl [] rfl)
      · refine lv_iconst (v := 1) hx hb dX11_isJob_23 rfl ?_
        refine lv_goto (tgt := 28) hx hb dX11_isJob_24 rfl ?_
        exact J _ (lt_ip c20 h) ls (lv_sub hl [] rfl)
abbrev rm_X11_refuse : Room := { frames := 0, cells := 0, slots := 0, locals := 0 }
set_option maxRecDepth 100000 in
set_option maxHeartbeats 4000000 in
theorem c_X11_refuse {g : gT} {l : Launch} {A : Nat → Prop} {q : Nat → Nat} {m_thrown : Int32} {m_length : Int32} {m_at : Int32} {m_fault : Int32} {m_toldWords : Int32} {m_orders : Int32} {m_value : Int32} {m_hasUnit : Bool} {m_places : Int32} {m_clocks : Int32} {m_held : Bool} {m_x : Int64} {m_y : Int64} {m_z : Int64} {m_first : Int64} {m_second : Int64} {m_aside : Int32} {m_jobs : Int32} {m_jobsImage : Int32} {m_clocksImage : Int32} {m_heldImage : Bool} {m_hasImage : Bool} {m_tape : Nat → Int32} {m_read : Nat → Int32} {m_order : Nat → Int32} {m_width : Nat → Int32} {m_guard : Nat → Int32} {m_points : Nat → Int32} {m_stages : Nat → Int32} {m_gain : Nat → Int32} {m_undo : Nat → Int32} {m_near : Nat → Bool} {m_quarter : Nat → Int64} {m_ln : Nat → Int64} {m_angle : Nat → Int64} {m_shift : Nat → Int32} {m_digit : Nat → Int32} {m_refused : Nat → Int32} {m_job : Nat → Int32} {m_jobKept : Nat → Int32} {m_result : Nat → Int32} {m_resultKept : Nat → Int32} {m_trace : Nat → Int64} {m_traceKept : Nat → Int64} {m_jobImage : Nat → Int32} {m_resultImage : Nat → Int32} {m_traceImage : Nat → Int64} {p0 : Int32} {o : Int32 × (Nat → Int32)} (h : f_X11_refuse p0 m_refused = some o) : Std g l yX11_refuse (.code yX11_refuse cX11_refuse 2 (some .int) :: gw) rm_X11_refuse A [.ref (q 0), .int p0] (wM g q m_thrown m_length m_at m_fault m_toldWords m_orders m_value m_hasUnit m_places m_clocks m_held m_x m_y m_z m_first m_second m_aside m_jobs m_jobsImage m_clocksImage m_heldImage m_hasImage m_tape m_read m_order m_width m_guard m_points m_stages m_gain m_undo m_near m_quarter m_ln m_angle m_shift m_digit m_refused m_job m_jobKept m_result m_resultKept m_trace m_traceKept m_jobImage m_resultImage m_traceImage) (wM g q m_thrown m_length m_at m_fault m_toldWords m_orders m_value m_hasUnit m_places m_clocks m_held m_x m_y m_z m_first m_second m_aside m_jobs m_jobsImage m_clocksImage m_heldImage m_hasImage m_tape m_read m_order m_width m_guard m_points m_stages m_gain m_undo m_near m_quarter m_ln m_angle m_shift m_digit o.2 m_job m_jobKept m_result m_resultKept m_trace m_traceKept m_jobImage m_resultImage m_traceImage) (some (.int o.1)) := by
  refine std_i (own := RX11) (by decide +kernel) rfl (Nat.le_of_ble_eq_true rfl) ?_
  intro p e s m args below meth c Q X ret H locs hP hS ls hl
  have hx := X.1
  have hb := X.2.1
  have hl : lv_has ls 2 [(0, .ref (q 0)), (1, .int p0)] := hl
  have ret : ∀ {H : Heap} {locs : List Loc} {pc : Nat} {ls : Array Slot} {v : Int32} {m_refused : Nat → Int32}, some (v, m_refused) = some o → WP g A (wM g q m_thrown m_length m_at m_fault m_toldWords m_orders m_value m_hasUnit m_places m_clocks m_held m_x m_y m_z m_first m_second m_aside m_jobs m_jobsImage m_clocksImage m_heldImage m_hasImage m_tape m_read m_order m_width m_guard m_points m_stages m_gain m_undo m_near m_quarter m_ln m_angle m_shift m_digit m_refused m_job m_jobKept m_result m_resultKept m_trace m_traceKept m_jobImage m_resultImage m_traceImage) H → va_S A s.heap H locs → decode cX11_refuse pc = .ok (.ireturn, 1) → W p l e rm_X11_refuse s m args below meth c H locs 0 0 Q (F0 m pc ls [.int v]) := by
    intro H locs pc ls v m_refused h hP hS hd
    cases h
    exact ret hP hS hd
  unfold f_X11_refuse at h
  refine lv_aload_n hx hb dX11_refuse_0 rfl (lv_at hl 0 rfl) ?_
  refine gf_X11_223_M_0 X hP dX11_refuse_1 ?_
  refine lv_iload_n hx hb dX11_refuse_4 rfl (lv_at hl 1 rfl) ?_
  refine lv_dup2_11 hx hb dX11_refuse_5 rfl rfl ?_
  obtain ⟨hi6, h⟩ := gv_of h
  refine al_M_16 X hP hi6 dX11_refuse_6 ?_
  refine lv_iconst (v := 1) hx hb dX11_refuse_7 rfl ?_
  refine lv_iadd hx hb dX11_refuse_8 ?_
  refine lv_topi (fun v1 ev1 => ?_)
  have h := lt_at ev1 h
  obtain ⟨hi9, h⟩ := gv_of h
  refine as_M_16 (v0 := v1) X hP hS hi9 dX11_refuse_9 (fun H locs hP hS => ?_)
  refine lv_iconst (v := (-1)) hx hb dX11_refuse_10 rfl ?_
  exact ret h hP hS dX11_refuse_11
abbrev rm_X11_adds : Room := { frames := 0, cells := 0, slots := 0, locals := 0 }
set_option maxRecDepth 100000 in
set_option maxHeartbeats 4000000 in
theorem c_X11_adds {g : gT} {l : Launch} {A : Nat → Prop} {q : Nat → Nat} {m_thrown : Int32} {m_length : Int32} {m_at : Int32} {m_fault : Int32} {m_toldWords : Int32} {m_orders : Int32} {m_value : Int32} {m_hasUnit : Bool} {m_places : Int32} {m_clocks : Int32} {m_held : Bool} {m_x : Int64} {m_y : Int64} {m_z : Int64} {m_first : Int64} {m_second : Int64} {m_aside : Int32} {m_jobs : Int32} {m_jobsImage : Int32} {m_clocksImage : Int32} {m_heldImage : Bool} {m_hasImage : Bool} {m_tape : Nat → Int32} {m_read : Nat → Int32} {m_order : Nat → Int32} {m_width : Nat → Int32} {m_guard : Nat → Int32} {m_points : Nat → Int32} {m_stages : Nat → Int32} {m_gain : Nat → Int32} {m_undo : Nat → Int32} {m_near : Nat → Bool} {m_quarter : Nat → Int64} {m_ln : Nat → Int64} {m_angle : Nat → Int64} {m_shift : Nat → Int32} {m_digit : Nat → Int32} {m_refused : Nat → Int32} {m_job : Nat → Int32} {m_jobKept : Nat → Int32} {m_result : Nat → Int32} {m_resultKept : Nat → Int32} {m_trace : Nat → Int64} {m_traceKept : Nat → Int64} {m_jobImage : Nat → Int32} {m_resultImage : Nat → Int32} {m_traceImage : Nat → Int64} {p0 : Int32} {p1 : Int32} {p2 : Int32} {p3 : Int32} {o : Int32 × (Nat → Int32)} (h : f_X11_adds p0 p1 p2 p3 m_clocks m_jobs m_job = some o) : Std g l yX11_adds (.code yX11_adds cX11_adds 7 none :: gw) rm_X11_adds A [.ref (q 0), .int p0, .int p1, .int p2, .int p3] (wM g q m_thrown m_length m_at m_fault m_toldWords m_orders m_value m_hasUnit m_places m_clocks m_held m_x m_y m_z m_first m_second m_aside m_jobs m_jobsImage m_clocksImage m_heldImage m_hasImage m_tape m_read m_order m_width m_guard m_points m_stages m_gain m_undo m_near m_quarter m_ln m_angle m_shift m_digit m_refused m_job m_jobKept m_result m_resultKept m_trace m_traceKept m_jobImage m_resultImage m_traceImage) (wM g q m_thrown m_length m_at m_fault m_toldWords m_orders m_value m_hasUnit m_places m_clocks m_held m_x m_y m_z m_first m_second m_aside o.1 m_jobsImage m_clocksImage m_heldImage m_hasImage m_tape m_read m_order m_width m_guard m_points m_stages m_gain m_undo m_near m_quarter m_ln m_angle m_shift m_digit m_refused o.2 m_jobKept m_result m_resultKept m_trace m_traceKept m_jobImage m_resultImage m_traceImage) none := by
  refine std_v (own := RX11) (by decide +kernel) rfl (Nat.le_of_ble_eq_true rfl) ?_
  intro p e s m args below meth c Q X ret H locs hP hS ls hl
  have hx := X.1
  have hb := X.2.1
  have hl : lv_has ls 7 [(0, .ref (q 0)), (1, .int p0), (2, .int p1), (3, .int p2), (4, .int p3)] := hl
  have ret : ∀ {H : Heap} {locs : List Loc} {pc : Nat} {ls : Array Slot} {m_jobs : Int32} {m_job : Nat → Int32}, some (m_jobs, m_job) = some o → WP g A (wM g q m_thrown m_length m_at m_fault m_toldWords m_orders m_value m_hasUnit m_places m_clocks m_held m_x m_y m_z m_first m_second m_aside m_jobs m_jobsImage m_clocksImage m_heldImage m_hasImage m_tape m_read m_order m_width m_guard m_points m_stages m_gain m_undo m_near m_quarter m_ln m_angle m_shift m_digit m_refused m_job m_jobKept m_result m_resultKept m_trace m_traceKept m_jobImage m_resultImage m_traceImage) H → va_S A s.heap H locs → decode cX11_adds pc = .ok (.return_, 1) → W p l e rm_X11_adds s m args below meth c H locs 0 0 Q (F0 m pc ls []) := by
    intro H locs pc ls m_jobs m_job h hP hS hd
    cases h
    exact ret hP hS hd
  have l12 : ∀ (n : Nat), ∀ (x1 : Int32) (x2 : Int32) (x3 : Int32) (x4 : Int32) (x5 : Int32) (x6 : Int32) (m_jobs : Int32) (m_job : Nat → Int32) (H : Heap) (locs : List Loc) (ls : Array Slot), f_X11_adds_l12  m_clocks  n x1 x2 x3 x4 x5 x6 m_jobs m_job = some o → WP g A (wM g q m_thrown m_length m_at m_fault m_toldWords m_orders m_value m_hasUnit m_places m_clocks m_held m_x m_y m_z m_first m_second m_aside m_jobs m_jobsImage m_clocksImage m_heldImage m_hasImage m_tape m_read m_order m_width m_guard m_points m_stages m_gain m_undo m_near m_quarter m_ln m_angle m_shift m_digit m_refused m_job m_jobKept m_result m_resultKept m_trace m_traceKept m_jobImage m_resultImage m_traceImage) H → va_S A s.heap H locs → lv_has ls 7 [(0, .ref (q 0)), (1, .int x1), (2, .int x2), (3, .int x3), (4, .int x4), (5, .int x5), (6, .int x6)] → W p l e rm_X11_adds s m args below meth c H locs 0 0 Q (F0 m 12 ls []) := by
    intro  n
    induction n with
    | zero =>
      intro x1 x2 x3 x4 x5 x6 m_jobs m_job H locs ls h
      exact nz_of h
    | succ n ih =>
      intro x1 x2 x3 x4 x5 x6 m_jobs m_job H locs ls h hP hS hl
      rw [f_X11_adds_l12] at h
      refine lv_iload hx hb dX11_adds_12 (lv_at hl 6 rfl) ?_
      refine lv_bipush (v := 14) hx hb dX11_adds_14 rfl ?_
      refine lv_icmp_ge (tgt := 61) hx hb dX11_adds_16 rfl (fun c16 => ?_) (fun c16 => ?_)
      · have h := br_p c16 h
        refine lv_aload_n hx hb dX11_adds_61 rfl (lv_at hl 0 rfl) ?_
        refine gf_X11_226_M_0 X hP dX11_adds_62 ?_
        refine lv_iload hx hb dX11_adds_65 (lv_at hl 5 rfl) ?_
        refine lv_iload_n hx hb dX11_adds_67 rfl (lv_at hl 1 rfl) ?_
        obtain ⟨hi68, h⟩ := gv_of h
        refine as_M_17 (v0 := x1) X hP hS hi68 dX11_adds_68 (fun H locs hP hS => ?_)
        refine lv_aload_n hx hb dX11_adds_69 rfl (lv_at hl 0 rfl) ?_
        refine gf_X11_226_M_0 X hP dX11_adds_70 ?_
        refine lv_iload hx hb dX11_adds_73 (lv_at hl 5 rfl) ?_
        refine lv_bipush (v := 13) hx hb dX11_adds_75 rfl ?_
        refine lv_iadd hx hb dX11_adds_77 ?_
        refine lv_aload_n hx hb dX11_adds_78 rfl (lv_at hl 0 rfl) ?_
        refine gf_X11_267_M_0 X hP dX11_adds_79 ?_
        obtain ⟨hi82, h⟩ := gv_of h
        refine as_M_17 (v0 := m_clocks) X hP hS hi82 dX11_adds_82 (fun H locs hP hS => ?_)
        refine lv_aload_n hx hb dX11_adds_83 rfl (lv_at hl 0 rfl) ?_
        refine gf_X11_226_M_0 X hP dX11_adds_84 ?_
        refine lv_iload hx hb dX11_adds_87 (lv_at hl 5 rfl) ?_
        refine lv_iconst (v := 1) hx hb dX11_adds_89 rfl ?_
        refine lv_iadd hx hb dX11_adds_90 ?_
        refine lv_iload_n hx hb dX11_adds_91 rfl (lv_at hl 2 rfl) ?_
        obtain ⟨hi92, h⟩ := gv_of h
        refine as_M_17 (v0 := x2) X hP hS hi92 dX11_adds_92 (fun H locs hP hS => ?_)
        refine lv_aload_n hx hb dX11_adds_93 rfl (lv_at hl 0 rfl) ?_
        refine gf_X11_226_M_0 X hP dX11_adds_94 ?_
        refine lv_iload hx hb dX11_adds_97 (lv_at hl 5 rfl) ?_
        refine lv_iconst (v := 1) hx hb dX11_adds_99 rfl ?_
        refine lv_iadd hx hb dX11_adds_100 ?_
        refine lv_iconst (v := 1) hx hb dX11_adds_101 rfl ?_
        refine lv_iadd hx hb dX11_adds_102 ?_
        refine lv_iload_n hx hb dX11_adds_103 rfl (lv_at hl 3 rfl) ?_
        obtain ⟨hi104, h⟩ := gv_of h
        refine as_M_17 (v0 := x3) X hP hS hi104 dX11_adds_104 (fun H locs hP hS => ?_)
        refine lv_aload_n hx hb dX11_adds_105 rfl (lv_at hl 0 rfl) ?_
        refine gf_X11_226_M_0 X hP dX11_adds_106 ?_
        refine lv_iload hx hb dX11_adds_109 (lv_at hl 5 rfl) ?_
        refine lv_iconst (v := 1) hx hb dX11_adds_111 rfl ?_
        refine lv_iadd hx hb dX11_adds_112 ?_
        refine lv_iconst (v := 2) hx hb dX11_adds_113 rfl ?_
        refine lv_iadd hx hb dX11_adds_114 ?_
        refine lv_iload hx hb dX11_adds_115 (lv_at hl 4 rfl) ?_
        obtain ⟨hi117, h⟩ := gv_of h
        refine as_M_17 (v0 := x4) X hP hS hi117 dX11_adds_117 (fun H locs hP hS => ?_)
        refine lv_aload_n hx hb dX11_adds_118 rfl (lv_at hl 0 rfl) ?_
        refine lv_dup hx hb dX11_adds_119 rfl ?_
        refine gf_X11_273_M_0 X hP dX11_adds_120 ?_
        refine lv_iconst (v := 1) hx hb dX11_adds_123 rfl ?_
        refine lv_iadd hx hb dX11_adds_124 ?_
        refine lv_topi (fun v2 ev2 => ?_)
        have h := lt_at ev2 h
        refine pf_X11_273_M_0 (v0 := v2) X hP hS dX11_adds_125 (fun H locs hP hS => ?_)
        exact ret h hP hS dX11_adds_128
      · have h := br_n c16 h
        refine lv_aload_n hx hb dX11_adds_19 rfl (lv_at hl 0 rfl) ?_
        refine gf_X11_226_M_0 X hP dX11_adds_20 ?_
        refine lv_iload hx hb dX11_adds_23 (lv_at hl 5 rfl) ?_
        refine lv_iload hx hb dX11_adds_25 (lv_at hl 6 rfl) ?_
        refine lv_iadd hx hb dX11_adds_27 ?_
        refine lv_iload hx hb dX11_adds_28 (lv_at hl 6 rfl) ?_
        refine lv_bipush (v := 10) hx hb dX11_adds_30 rfl ?_
        refine jx1 h (P := fun (v3 : Int32) => ∀ ls : Array Slot, lv_has ls 7 [(0, .ref (q 0)), (1, .int x1), (2, .int x2), (3, .int x3), (4, .int x4), (5, .int x5), (6, .int x6)] → W p l e rm_X11_adds s m args below meth c H locs 0 0 Q (F0 m 54 ls [.int v3, .int (x5 + x6), .ref (q 17)])) ?_ ?_
        · intro v3 h ls hl
          obtain ⟨hi54, h⟩ := gv_of h
          refine as_M_17 (v0 := v3) X hP hS hi54 dX11_adds_54 (fun H locs hP hS => ?_)
          obtain ⟨v4, ev4⟩ : ∃ z : Int32, z = (x6 + 1) := ⟨_, rfl⟩
          have h := lt_at ev4 h
          refine lv_iinc (v := v4) (lv' := [(6, .int v4), (0, .ref (q 0)), (1, .int x1), (2, .int x2), (3, .int x3), (4, .int x4), (5, .int x5)]) hx hb dX11_adds_55 hl (k := 6) rfl (by rw [ev4]; rfl) (by decide) rfl (fun ls hl => ?_)
          refine lv_goto (tgt := 12) hx hb dX11_adds_58 rfl ?_
          exact ih x1 x2 x3 x4 x5 v4 m_jobs (upd m_job ((x5 + x6)).toNatClampNeg v3) _ _ _ h hP hS (lv_sub hl [1, 2, 3, 4, 5, 6, 0] rfl)
        · intro J h
          refine lv_icmp_ge (tgt := 49) hx hb dX11_adds_32 rfl (fun c32 => ?_) (fun c32 => ?_)
          · refine lv_iconst (v := (-1)) hx hb dX11_adds_49 rfl ?_
            refine lv_goto (tgt := 54) hx hb dX11_adds_50 rfl ?_
            exact J _ (lt_ip c32 h) ls (lv_sub hl [0, 1, 2, 3, 4, 5, 6] rfl)
          · refine lv_iload hx hb dX11_adds_35 (lv_at hl 6 rfl) ?_
            refine lv_bipush (v := 6) hx hb dX11_adds_37 rfl ?_
            refine lv_icmp_eq (tgt := 49) hx hb dX11_adds_39 rfl (fun c39 => ?_) (fun c39 => ?_)
            · refine lv_iconst (v := (-1)) hx hb dX11_adds_49 rfl ?_
              refine lv_goto (tgt := 54) hx hb dX11_adds_50 rfl ?_
              exact J _ (lt_ip c39 (lt_in c32 h)) ls (lv_sub hl [0, 1, 2, 3, 4, 5, 6] rfl)
            · refine lv_iload hx hb dX11_adds_42 (lv_at hl 6 rfl) ?_
              refine lv_bipush (v := 7) hx hb dX11_adds_44 rfl ?_
              refine lv_icmp_ne (tgt := 53) hx hb dX11_adds_46 rfl (fun c46 => ?_) (fun c46 => ?_)
              · refine lv_iconst (v := 0) hx hb dX11_adds_53 rfl ?_
                exact J _ (lt_in c46 (lt_in c39 (lt_in c32 h))) ls (lv_sub hl [0, 1, 2, 3, 4, 5, 6] rfl)
              · refine lv_iconst (v := (-1)) hx hb dX11_adds_49 rfl ?_
                refine lv_goto (tgt := 54) hx hb dX11_adds_50 rfl ?_
                exact J _ (lt_ip c46 (lt_in c39 (lt_in c32 h))) ls (lv_sub hl [0, 1, 2, 3, 4, 5, 6] rfl)
  unfold f_X11_adds at h
  refine lv_bipush (v := 14) hx hb dX11_adds_0 rfl ?_
  refine lv_aload_n hx hb dX11_adds_2 rfl (lv_at hl 0 rfl) ?_
  refine gf_X11_273_M_0 X hP dX11_adds_3 ?_
  refine lv_imul hx hb dX11_adds_6 ?_
  refine lv_topi (fun v1 ev1 => ?_)
  have h := lt_at ev1 h
  refine lv_istore (lv' := [(5, .int v1), (0, .ref (q 0)), (1, .int p0), (2, .int p1), (3, .int p2), (4, .int p3)]) hx hb dX11_adds_7 hl (by decide) rfl (fun ls hl => ?_)
  refine lv_iconst (v := 0) hx hb dX11_adds_9 rfl ?_
  refine lv_istore (lv' := [(6, .int 0), (5, .int v1), (0, .ref (q 0)), (1, .int p0), (2, .int p1), (3, .int p2), (4, .int p3)]) hx hb dX11_adds_10 hl (by decide) rfl (fun ls hl => ?_)
  exact l12  FU p0 p1 p2 p3 v1 (0 : Int32) m_jobs m_job _ _ _ h hP hS (lv_sub hl [2, 3, 4, 5, 6, 1, 0] rfl)
abbrev rm_X11_job : Room := { frames := 3, cells := 0, slots := 0, locals := 76 }
set_option maxRecDepth 100000 in
set_option maxHeartbeats 4000000 in
theorem c_X11_job {g : gT} {l : Launch} {A : Nat → Prop} {q : Nat → Nat} {m_thrown : Int32} {m_length : Int32} {m_at : Int32} {m_fault : Int32} {m_toldWords : Int32} {m_orders : Int32} {m_value : Int32} {m_hasUnit : Bool} {m_places : Int32} {m_clocks : Int32} {m_held : Bool} {m_x : Int64} {m_y : Int64} {m_z : Int64} {m_first : Int64} {m_second : Int64} {m_aside : Int32} {m_jobs : Int32} {m_jobsImage : Int32} {m_clocksImage : Int32} {m_heldImage : Bool} {m_hasImage : Bool} {m_tape : Nat → Int32} {m_read : Nat → Int32} {m_order : Nat → Int32} {m_width : Nat → Int32} {m_guard : Nat → Int32} {m_points : Nat → Int32} {m_stages : Nat → Int32} {m_gain : Nat → Int32} {m_undo : Nat → Int32} {m_near : Nat → Bool} {m_quarter : Nat → Int64} {m_ln : Nat → Int64} {m_angle : Nat → Int64} {m_shift : Nat → Int32} {m_digit : Nat → Int32} {m_refused : Nat → Int32} {m_job : Nat → Int32} {m_jobKept : Nat → Int32} {m_result : Nat → Int32} {m_resultKept : Nat → Int32} {m_trace : Nat → Int64} {m_traceKept : Nat → Int64} {m_jobImage : Nat → Int32} {m_resultImage : Nat → Int32} {m_traceImage : Nat → Int64} {p0 : Int32} {p1 : Int32} {p2 : Int32} {p3 : Int32} {o : Int32 × Int32 × Int32 × (Nat → Int32) × (Nat → Int32)} (h : f_X11_job p0 p1 p2 p3 m_thrown m_hasUnit m_clocks m_jobs m_width m_refused m_job = some o) : Std g l yX11_job (.code yX11_job cX11_job 5 (some .int) :: gw) rm_X11_job A [.ref (q 0), .int p0, .int p1, .int p2, .int p3] (wM g q m_thrown m_length m_at m_fault m_toldWords m_orders m_value m_hasUnit m_places m_clocks m_held m_x m_y m_z m_first m_second m_aside m_jobs m_jobsImage m_clocksImage m_heldImage m_hasImage m_tape m_read m_order m_width m_guard m_points m_stages m_gain m_undo m_near m_quarter m_ln m_angle m_shift m_digit m_refused m_job m_jobKept m_result m_resultKept m_trace m_traceKept m_jobImage m_resultImage m_traceImage) (wM g q o.2.1 m_length m_at m_fault m_toldWords m_orders m_value m_hasUnit m_places m_clocks m_held m_x m_y m_z m_first m_second m_aside o.2.2.1 m_jobsImage m_clocksImage m_heldImage m_hasImage m_tape m_read m_order m_width m_guard m_points m_stages m_gain m_undo m_near m_quarter m_ln m_angle m_shift m_digit o.2.2.2.1 o.2.2.2.2 m_jobKept m_result m_resultKept m_trace m_traceKept m_jobImage m_resultImage m_traceImage) (some (.int o.1)) := by
  refine std_i (own := RX11) (by decide +kernel) rfl (Nat.le_of_ble_eq_true rfl) ?_
  intro p e s m args below meth c Q X ret H locs hP hS ls hl
  have hx := X.1
  have hb := X.2.1
  have hl : lv_has ls 5 [(0, .ref (q 0)), (1, .int p0), (2, .int p1), (3, .int p2), (4, .int p3)] := hl
  have ret : ∀ {H : Heap} {locs : List Loc} {pc : Nat} {ls : Array Slot} {v : Int32} {m_thrown : Int32} {m_jobs : Int32} {m_refused : Nat → Int32} {m_job : Nat → Int32}, some (v, m_thrown, m_jobs, m_refused, m_job) = some o → WP g A (wM g q m_thrown m_length m_at m_fault m_toldWords m_orders m_value m_hasUnit m_places m_clocks m_held m_x m_y m_z m_first m_second m_aside m_jobs m_jobsImage m_clocksImage m_heldImage m_hasImage m_tape m_read m_order m_width m_guard m_points m_stages m_gain m_undo m_near m_quarter m_ln m_angle m_shift m_digit m_refused m_job m_jobKept m_result m_resultKept m_trace m_traceKept m_jobImage m_resultImage m_traceImage) H → va_S A s.heap H locs → decode cX11_job pc = .ok (.ireturn, 1) → W p l e rm_X11_job s m args below meth c H locs 0 0 Q (F0 m pc ls [.int v]) := by
    intro H locs pc ls v m_thrown m_jobs m_refused m_job h hP hS hd
    cases h
    exact ret hP hS hd
  unfold f_X11_job at h
  refine lv_aload_n hx hb dX11_job_0 rfl (lv_at hl 0 rfl) ?_
  refine lv_iconst (v := 0) hx hb dX11_job_1 rfl ?_
  refine pf_X11_5_M_0 (v0 := (0 : Int32)) X hP hS dX11_job_2 (fun H locs hP hS => ?_)
  refine lv_aload_n hx hb dX11_job_5 rfl (lv_at hl 0 rfl) ?_
  refine lv_iload_n hx hb dX11_job_6 rfl (lv_at hl 1 rfl) ?_
  obtain ⟨o1, hco1, h⟩ := bd_of h
  refine kV (rest := []) X dX11_job_7 wd_6_195 mw_X11_isKind wd_6_197 wp_8_2 hP (k0 := 0) rfl rfl rfl hS (fun _ z => z) (c_X11_isKind hco1) rfl hl.1 rfl (Nat.le_of_ble_eq_true rfl) rfl rfl ⟨Nat.le_of_ble_eq_true rfl, Nat.le_of_ble_eq_true rfl⟩ (fun H locs hP _ _ hS => ?_)
  refine W.eq (g2 := F0 m 10 ls [.int (bI o1)]) rfl ?_
  refine rb_ne (tgt := 19) hx hb dX11_job_10 rfl (fun c10 => ?_) (fun c10 => ?_)
  · have h := br_p c10 h
    refine lv_aload_n hx hb dX11_job_19 rfl (lv_at hl 0 rfl) ?_
    refine lv_iconst (v := 0) hx hb dX11_job_20 rfl ?_
    refine lv_iload_n hx hb dX11_job_21 rfl (lv_at hl 1 rfl) ?_
    refine lv_iload_n hx hb dX11_job_22 rfl (lv_at hl 2 rfl) ?_
    refine lv_i2l hx hb dX11_job_23 rfl ?_
    refine lv_iload_n hx hb dX11_job_24 rfl (lv_at hl 3 rfl) ?_
    refine lv_i2l hx hb dX11_job_25 rfl ?_
    refine lv_iload hx hb dX11_job_26 (lv_at hl 4 rfl) ?_
    refine lv_i2l hx hb dX11_job_28 rfl ?_
    obtain ⟨o2, hco2, h⟩ := bd_of h
    refine kV (rest := []) X dX11_job_29 wd_6_204 mw_X11_isGood wd_6_206 wp_8_4 hP (k0 := 0) rfl rfl rfl hS (fun _ z => z) (c_X11_isGood hco2) rfl hl.1 rfl (Nat.le_of_ble_eq_true rfl) rfl rfl ⟨Nat.le_of_ble_eq_true rfl, Nat.le_of_ble_eq_true rfl⟩ (fun H locs hP _ _ hS => ?_)
    refine W.eq (g2 := F0 m 32 ls [.int (bI o2)]) rfl ?_
    refine rb_ne (tgt := 41) hx hb dX11_job_32 rfl (fun c32 => ?_) (fun c32 => ?_)
    · have h := br_p c32 h
      refine lv_aload_n hx hb dX11_job_41 rfl (lv_at hl 0 rfl) ?_
      refine gf_X11_273_M_0 X hP dX11_job_42 ?_
      refine lv_bipush (v := 60) hx hb dX11_job_45 rfl ?_
      refine lv_icmp_ne (tgt := 56) hx hb dX11_job_47 rfl (fun c47 => ?_) (fun c47 => ?_)
      · have h := br_n c47 h
        refine lv_aload_n hx hb dX11_job_56 rfl (lv_at hl 0 rfl) ?_
        refine lv_iload_n hx hb dX11_job_57 rfl (lv_at hl 1 rfl) ?_
        refine lv_iload_n hx hb dX11_job_58 rfl (lv_at hl 2 rfl) ?_
        refine lv_iload_n hx hb dX11_job_59 rfl (lv_at hl 3 rfl) ?_
        refine lv_iload hx hb dX11_job_60 (lv_at hl 4 rfl) ?_
        obtain ⟨o3, hco3, h⟩ := bd_of h
        refine kV (rest := []) X dX11_job_62 wd_7_54 mw_X11_adds wd_7_56 wp_8_15 hP (k0 := 0) rfl rfl rfl hS (fun _ z => z) (c_X11_adds hco3) rfl hl.1 rfl (Nat.le_of_ble_eq_true rfl) rfl rfl ⟨Nat.le_of_ble_eq_true rfl, Nat.le_of_ble_eq_true rfl⟩ (fun H locs hP _ _ hS => ?_)
        refine W.eq (g2 := F0 m 65 ls []) rfl ?_
        refine lv_aload_n hx hb dX11_job_65 rfl (lv_at hl 0 rfl) ?_
        refine gf_X11_273_M_0 X hP dX11_job_66 ?_
        refine lv_iconst (v := 1) hx hb dX11_job_69 rfl ?_
        refine lv_isub hx hb dX11_job_70 ?_
        exact ret h hP hS dX11_job_71
      · have h := br_p c47 h
        refine lv_aload_n hx hb dX11_job_50 rfl (lv_at hl 0 rfl) ?_
        refine lv_iconst (v := 2) hx hb dX11_job_51 rfl ?_
        obtain ⟨o4, hco4, h⟩ := bd_of h
        refine kV (rest := []) X dX11_job_52 wd_7_50 mw_X11_refuse wd_7_52 wp_8_14 hP (k0 := 0) rfl rfl rfl hS (fun _ z => z) (c_X11_refuse hco4) rfl hl.1 rfl (Nat.le_of_ble_eq_true rfl) rfl rfl ⟨Nat.le_of_ble_eq_true rfl, Nat.le_of_ble_eq_true rfl⟩ (fun H locs hP _ _ hS => ?_)
        refine W.eq (g2 := F0 m 55 ls [.int o4.1]) rfl ?_
        exact ret h hP hS dX11_job_55
    · have h := br_n c32 h
      refine lv_aload_n hx hb dX11_job_35 rfl (lv_at hl 0 rfl) ?_
      refine lv_iconst (v := 1) hx hb dX11_job_36 rfl ?_
      obtain ⟨o5, hco5, h⟩ := bd_of h
      refine kV (rest := []) X dX11_job_37 wd_7_50 mw_X11_refuse wd_7_52 wp_8_14 hP (k0 := 0) rfl rfl rfl hS (fun _ z => z) (c_X11_refuse hco5) rfl hl.1 rfl (Nat.le_of_ble_eq_true rfl) rfl rfl ⟨Nat.le_of_ble_eq_true rfl, Nat.le_of_ble_eq_true rfl⟩ (fun H locs hP _ _ hS => ?_)
      refine W.eq (g2 := F0 m 40 ls [.int o5.1]) rfl ?_
      exact ret h hP hS dX11_job_40
  · have h := br_n c10 h
    refine lv_aload_n hx hb dX11_job_13 rfl (lv_at hl 0 rfl) ?_
    refine lv_iconst (v := 0) hx hb dX11_job_14 rfl ?_
    obtain ⟨o6, hco6, h⟩ := bd_of h
    refine kV (rest := []) X dX11_job_15 wd_7_50 mw_X11_refuse wd_7_52 wp_8_14 hP (k0 := 0) rfl rfl rfl hS (fun _ z => z) (c_X11_refuse hco6) rfl hl.1 rfl (Nat.le_of_ble_eq_true rfl) rfl rfl ⟨Nat.le_of_ble_eq_true rfl, Nat.le_of_ble_eq_true rfl⟩ (fun H locs hP _ _ hS => ?_)
    refine W.eq (g2 := F0 m 18 ls [.int o6.1]) rfl ?_
    exact ret h hP hS dX11_job_18
abbrev rm_X11_isLinked : Room := { frames := 0, cells := 0, slots := 0, locals := 0 }
set_option maxRecDepth 100000 in
set_option maxHeartbeats 4000000 in
theorem c_X11_isLinked {g : gT} {l : Launch} {A : Nat → Prop} {q : Nat → Nat} {m_thrown : Int32} {m_length : Int32} {m_at : Int32} {m_fault : Int32} {m_toldWords : Int32} {m_orders : Int32} {m_value : Int32} {m_hasUnit : Bool} {m_places : Int32} {m_clocks : Int32} {m_held : Bool} {m_x : Int64} {m_y : Int64} {m_z : Int64} {m_first : Int64} {m_second : Int64} {m_aside : Int32} {m_jobs : Int32} {m_jobsImage : Int32} {m_clocksImage : Int32} {m_heldImage : Bool} {m_hasImage : Bool} {m_tape : Nat → Int32} {m_read : Nat → Int32} {m_order : Nat → Int32} {m_width : Nat → Int32} {m_guard : Nat → Int32} {m_points : Nat → Int32} {m_stages : Nat → Int32} {m_gain : Nat → Int32} {m_undo : Nat → Int32} {m_near : Nat → Bool} {m_quarter : Nat → Int64} {m_ln : Nat → Int64} {m_angle : Nat → Int64} {m_shift : Nat → Int32} {m_digit : Nat → Int32} {m_refused : Nat → Int32} {m_job : Nat → Int32} {m_jobKept : Nat → Int32} {m_result : Nat → Int32} {m_resultKept : Nat → Int32} {m_trace : Nat → Int64} {m_traceKept : Nat → Int64} {m_jobImage : Nat → Int32} {m_resultImage : Nat → Int32} {m_traceImage : Nat → Int64} {p0 : Int32} {o : Bool} (h : f_X11_isLinked p0 m_order = some o) : Std g l yX11_isLinked (.code yX11_isLinked cX11_isLinked 2 (some .boolean) :: gw) rm_X11_isLinked A [.ref (q 0), .int p0] (wM g q m_thrown m_length m_at m_fault m_toldWords m_orders m_value m_hasUnit m_places m_clocks m_held m_x m_y m_z m_first m_second m_aside m_jobs m_jobsImage m_clocksImage m_heldImage m_hasImage m_tape m_read m_order m_width m_guard m_points m_stages m_gain m_undo m_near m_quarter m_ln m_angle m_shift m_digit m_refused m_job m_jobKept m_result m_resultKept m_trace m_traceKept m_jobImage m_resultImage m_traceImage) (wM g q m_thrown m_length m_at m_fault m_toldWords m_orders m_value m_hasUnit m_places m_clocks m_held m_x m_y m_z m_first m_second m_aside m_jobs m_jobsImage m_clocksImage m_heldImage m_hasImage m_tape m_read m_order m_width m_guard m_points m_stages m_gain m_undo m_near m_quarter m_ln m_angle m_shift m_digit m_refused m_job m_jobKept m_result m_resultKept m_trace m_traceKept m_jobImage m_resultImage m_traceImage) (some (.int (bI o))) := by
  refine std_z (own := RX11) (by decide +kernel) rfl (Nat.le_of_ble_eq_true rfl) ?_
  intro p e s m args below meth c Q X ret H locs hP hS ls hl
  have hx := X.1
  have hb := X.2.1
  have hl : lv_has ls 2 [(0, .ref (q 0)), (1, .int p0)] := hl
  have ret : ∀ {H : Heap} {locs : List Loc} {pc : Nat} {ls : Array Slot} {v : Bool} , some (v) = some o → WP g A (wM g q m_thrown m_length m_at m_fault m_toldWords m_orders m_value m_hasUnit m_places m_clocks m_held m_x m_y m_z m_first m_second m_aside m_jobs m_jobsImage m_clocksImage m_heldImage m_hasImage m_tape m_read m_order m_width m_guard m_points m_stages m_gain m_undo m_near m_quarter m_ln m_angle m_shift m_digit m_refused m_job m_jobKept m_result m_resultKept m_trace m_traceKept m_jobImage m_resultImage m_traceImage) H → va_S A s.heap H locs → decode cX11_isLinked pc = .ok (.ireturn, 1) → W p l e rm_X11_isLinked s m args below meth c H locs 0 0 Q (F0 m pc ls [.int (bI v)]) := by
    intro H locs pc ls v h hP hS hd
    cases h
    exact ret hP hS hd
  have b37 : ∀  (H : Heap) (locs : List Loc) (ls : Array Slot), f_X11_isLinked_b37  m_order   = some o → WP g A (wM g q m_thrown m_length m_at m_fault m_toldWords m_orders m_value m_hasUnit m_places m_clocks m_held m_x m_y m_z m_first m_second m_aside m_jobs m_jobsImage m_clocksImage m_heldImage m_hasImage m_tape m_read m_order m_width m_guard m_points m_stages m_gain m_undo m_near m_quarter m_ln m_angle m_shift m_digit m_refused m_job m_jobKept m_result m_resultKept m_trace m_traceKept m_jobImage m_resultImage m_traceImage) H → va_S A s.heap H locs → lv_has ls 2 [] → W p l e rm_X11_isLinked s m args below meth c H locs 0 0 Q (F0 m 37 ls []) := by
    intro   H locs ls h hP hS hl
    unfold f_X11_isLinked_b37 at h
    refine lv_iconst (v := 1) hx hb dX11_isLinked_37 rfl ?_
    refine lv_goto (tgt := 42) hx hb dX11_isLinked_38 rfl ?_
    exact ret h hP hS dX11_isLinked_42
  unfold f_X11_isLinked at h
  refine lv_aload_n hx hb dX11_isLinked_0 rfl (lv_at hl 0 rfl) ?_
  refine gf_X11_126_M_0 X hP dX11_isLinked_1 ?_
  refine lv_iload_n hx hb dX11_isLinked_4 rfl (lv_at hl 1 rfl) ?_
  refine lv_iconst (v := 4) hx hb dX11_isLinked_5 rfl ?_
  refine lv_iadd hx hb dX11_isLinked_6 ?_
  obtain ⟨hi7, h⟩ := gv_of h
  refine al_M_3 X hP hi7 dX11_isLinked_7 ?_
  refine lv_iconst (v := (-1)) hx hb dX11_isLinked_8 rfl ?_
  refine lv_icmp_ne (tgt := 37) hx hb dX11_isLinked_9 rfl (fun c9 => ?_) (fun c9 => ?_)
  · have h := br_n c9 h
    exact b37    _ _ _ h hP hS (lv_sub hl [] rfl)
  · have h := br_p c9 h
    refine lv_aload_n hx hb dX11_isLinked_12 rfl (lv_at hl 0 rfl) ?_
    refine gf_X11_126_M_0 X hP dX11_isLinked_13 ?_
    refine lv_iload_n hx hb dX11_isLinked_16 rfl (lv_at hl 1 rfl) ?_
    refine lv_iconst (v := 5) hx hb dX11_isLinked_17 rfl ?_
    refine lv_iadd hx hb dX11_isLinked_18 ?_
    obtain ⟨hi19, h⟩ := gv_of h
    refine al_M_3 X hP hi19 dX11_isLinked_19 ?_
    refine lv_iconst (v := (-1)) hx hb dX11_isLinked_20 rfl ?_
    refine lv_icmp_ne (tgt := 37) hx hb dX11_isLinked_21 rfl (fun c21 => ?_) (fun c21 => ?_)
    · have h := br_n c21 h
      exact b37    _ _ _ h hP hS (lv_sub hl [] rfl)
    · have h := br_p c21 h
      refine lv_aload_n hx hb dX11_isLinked_24 rfl (lv_at hl 0 rfl) ?_
      refine gf_X11_126_M_0 X hP dX11_isLinked_25 ?_
      refine lv_iload_n hx hb dX11_isLinked_28 rfl (lv_at hl 1 rfl) ?_
      refine lv_bipush (v := 6) hx hb dX11_isLinked_29 rfl ?_
      refine lv_iadd hx hb dX11_isLinked_31 ?_
      obtain ⟨hi32, h⟩ := gv_of h
      refine al_M_3 X hP hi32 dX11_isLinked_32 ?_
      refine lv_iconst (v := (-1)) hx hb dX11_isLinked_33 rfl ?_
      refine jx1 h (P := fun (v1 : Bool) => ∀ ls : Array Slot, lv_has ls 2 [] → W p l e rm_X11_isLinked s m args below meth c H locs 0 0 Q (F0 m 42 ls [.int (bI v1)])) ?_ ?_
      · intro v1 h ls hl
        exact ret h hP hS dX11_isLinked_42
      · intro J h
        refine lv_icmp_eq (tgt := 41) hx hb dX11_isLinked_34 rfl (fun c34 => ?_) (fun c34 => ?_)
        · refine lv_iconst (v := 0) hx hb dX11_isLinked_41 rfl ?_
          exact J _ (lt_ip c34 h) ls (lv_sub hl [] rfl)
        · refine lv_iconst (v := 1) hx hb dX11_isLinked_37 rfl ?_
          refine lv_goto (tgt := 42) hx hb dX11_isLinked_38 rfl ?_
          exact J _ (lt_in c34 h) ls (lv_sub hl [] rfl)
abbrev rm_X11_areGood : Room := { frames := 3, cells := 0, slots := 0, locals := 76 }
set_option maxRecDepth 100000 in
set_option maxHeartbeats 4000000 in
theorem c_X11_areGood {g : gT} {l : Launch} {A : Nat → Prop} {q : Nat → Nat} {m_thrown : Int32} {m_length : Int32} {m_at : Int32} {m_fault : Int32} {m_toldWords : Int32} {m_orders : Int32} {m_value : Int32} {m_hasUnit : Bool} {m_places : Int32} {m_clocks : Int32} {m_held : Bool} {m_x : Int64} {m_y : Int64} {m_z : Int64} {m_first : Int64} {m_second : Int64} {m_aside : Int32} {m_jobs : Int32} {m_jobsImage : Int32} {m_clocksImage : Int32} {m_heldImage : Bool} {m_hasImage : Bool} {m_tape : Nat → Int32} {m_read : Nat → Int32} {m_order : Nat → Int32} {m_width : Nat → Int32} {m_guard : Nat → Int32} {m_points : Nat → Int32} {m_stages : Nat → Int32} {m_gain : Nat → Int32} {m_undo : Nat → Int32} {m_near : Nat → Bool} {m_quarter : Nat → Int64} {m_ln : Nat → Int64} {m_angle : Nat → Int64} {m_shift : Nat → Int32} {m_digit : Nat → Int32} {m_refused : Nat → Int32} {m_job : Nat → Int32} {m_jobKept : Nat → Int32} {m_result : Nat → Int32} {m_resultKept : Nat → Int32} {m_trace : Nat → Int64} {m_traceKept : Nat → Int64} {m_jobImage : Nat → Int32} {m_resultImage : Nat → Int32} {m_traceImage : Nat → Int64}  {o : Bool} (h : f_X11_areGood  m_orders m_order m_width = some o) : Std g l yX11_areGood (.code yX11_areGood cX11_areGood 3 (some .boolean) :: gw) rm_X11_areGood A [.ref (q 0)] (wM g q m_thrown m_length m_at m_fault m_toldWords m_orders m_value m_hasUnit m_places m_clocks m_held m_x m_y m_z m_first m_second m_aside m_jobs m_jobsImage m_clocksImage m_heldImage m_hasImage m_tape m_read m_order m_width m_guard m_points m_stages m_gain m_undo m_near m_quarter m_ln m_angle m_shift m_digit m_refused m_job m_jobKept m_result m_resultKept m_trace m_traceKept m_jobImage m_resultImage m_traceImage) (wM g q m_thrown m_length m_at m_fault m_toldWords m_orders m_value m_hasUnit m_places m_clocks m_held m_x m_y m_z m_first m_second m_aside m_jobs m_jobsImage m_clocksImage m_heldImage m_hasImage m_tape m_read m_order m_width m_guard m_points m_stages m_gain m_undo m_near m_quarter m_ln m_angle m_shift m_digit m_refused m_job m_jobKept m_result m_resultKept m_trace m_traceKept m_jobImage m_resultImage m_traceImage) (some (.int (bI o))) := by
  refine std_z (own := RX11) (by decide +kernel) rfl (Nat.le_of_ble_eq_true rfl) ?_
  intro p e s m args below meth c Q X ret H locs hP hS ls hl
  have hx := X.1
  have hb := X.2.1
  have hl : lv_has ls 3 [(0, .ref (q 0))] := hl
  have ret : ∀ {H : Heap} {locs : List Loc} {pc : Nat} {ls : Array Slot} {v : Bool} , some (v) = some o → WP g A (wM g q m_thrown m_length m_at m_fault m_toldWords m_orders m_value m_hasUnit m_places m_clocks m_held m_x m_y m_z m_first m_second m_aside m_jobs m_jobsImage m_clocksImage m_heldImage m_hasImage m_tape m_read m_order m_width m_guard m_points m_stages m_gain m_undo m_near m_quarter m_ln m_angle m_shift m_digit m_refused m_job m_jobKept m_result m_resultKept m_trace m_traceKept m_jobImage m_resultImage m_traceImage) H → va_S A s.heap H locs → decode cX11_areGood pc = .ok (.ireturn, 1) → W p l e rm_X11_areGood s m args below meth c H locs 0 0 Q (F0 m pc ls [.int (bI v)]) := by
    intro H locs pc ls v h hP hS hd
    cases h
    exact ret hP hS hd
  have b66 : ∀ (k2 : Int32 → Option (Bool)) (hk2 : ∀ (x1 : Int32) (H : Heap) (locs : List Loc) (ls : Array Slot), k2 x1 = some o → WP g A (wM g q m_thrown m_length m_at m_fault m_toldWords m_orders m_value m_hasUnit m_places m_clocks m_held m_x m_y m_z m_first m_second m_aside m_jobs m_jobsImage m_clocksImage m_heldImage m_hasImage m_tape m_read m_order m_width m_guard m_points m_stages m_gain m_undo m_near m_quarter m_ln m_angle m_shift m_digit m_refused m_job m_jobKept m_result m_resultKept m_trace m_traceKept m_jobImage m_resultImage m_traceImage) H → va_S A s.heap H locs → lv_has ls 3 [(0, .ref (q 0)), (1, .int x1)] → W p l e rm_X11_areGood s m args below meth c H locs 0 0 Q (F0 m 2 ls [])) , ∀ (x1 : Int32) (H : Heap) (locs : List Loc) (ls : Array Slot), f_X11_areGood_b66  m_orders m_order m_width k2 x1 = some o → WP g A (wM g q m_thrown m_length m_at m_fault m_toldWords m_orders m_value m_hasUnit m_places m_clocks m_held m_x m_y m_z m_first m_second m_aside m_jobs m_jobsImage m_clocksImage m_heldImage m_hasImage m_tape m_read m_order m_width m_guard m_points m_stages m_gain m_undo m_near m_quarter m_ln m_angle m_shift m_digit m_refused m_job m_jobKept m_result m_resultKept m_trace m_traceKept m_jobImage m_resultImage m_traceImage) H → va_S A s.heap H locs → lv_has ls 3 [(0, .ref (q 0)), (1, .int x1)] → W p l e rm_X11_areGood s m args below meth c H locs 0 0 Q (F0 m 66 ls []) := by
    intro k2 hk2 x1 H locs ls h hP hS hl
    unfold f_X11_areGood_b66 at h
    obtain ⟨v3, ev3⟩ : ∃ z : Int32, z = (x1 + 1) := ⟨_, rfl⟩
    have h := lt_at ev3 h
    refine lv_iinc (v := v3) (lv' := [(1, .int v3), (0, .ref (q 0))]) hx hb dX11_areGood_66 hl (k := 1) rfl (by rw [ev3]; rfl) (by decide) rfl (fun ls hl => ?_)
    refine lv_goto (tgt := 2) hx hb dX11_areGood_69 rfl ?_
    exact hk2 v3 _ _ _ h hP hS (lv_sub hl [1, 0] rfl)
  have l2 : ∀ (n : Nat), ∀ (x1 : Int32) (H : Heap) (locs : List Loc) (ls : Array Slot), f_X11_areGood_l2  m_orders m_order m_width  n x1 = some o → WP g A (wM g q m_thrown m_length m_at m_fault m_toldWords m_orders m_value m_hasUnit m_places m_clocks m_held m_x m_y m_z m_first m_second m_aside m_jobs m_jobsImage m_clocksImage m_heldImage m_hasImage m_tape m_read m_order m_width m_guard m_points m_stages m_gain m_undo m_near m_quarter m_ln m_angle m_shift m_digit m_refused m_job m_jobKept m_result m_resultKept m_trace m_traceKept m_jobImage m_resultImage m_traceImage) H → va_S A s.heap H locs → lv_has ls 3 [(0, .ref (q 0)), (1, .int x1)] → W p l e rm_X11_areGood s m args below meth c H locs 0 0 Q (F0 m 2 ls []) := by
    intro  n
    induction n with
    | zero =>
      intro x1 H locs ls h
      exact nz_of h
    | succ n ih =>
      intro x1 H locs ls h hP hS hl
      rw [f_X11_areGood_l2] at h
      refine lv_iload_n hx hb dX11_areGood_2 rfl (lv_at hl 1 rfl) ?_
      refine lv_aload_n hx hb dX11_areGood_3 rfl (lv_at hl 0 rfl) ?_
      refine gf_X11_123_M_0 X hP dX11_areGood_4 ?_
      refine lv_icmp_ge (tgt := 72) hx hb dX11_areGood_7 rfl (fun c7 => ?_) (fun c7 => ?_)
      · have h := br_p c7 h
        refine lv_iconst (v := 1) hx hb dX11_areGood_72 rfl ?_
        exact ret h hP hS dX11_areGood_73
      · have h := br_n c7 h
        refine lv_bipush (v := 7) hx hb dX11_areGood_10 rfl ?_
        refine lv_iload_n hx hb dX11_areGood_12 rfl (lv_at hl 1 rfl) ?_
        refine lv_imul hx hb dX11_areGood_13 ?_
        refine lv_topi (fun v1 ev1 => ?_)
        have h := lt_at ev1 h
        refine lv_istore_n (lv' := [(2, .int v1), (0, .ref (q 0)), (1, .int x1)]) hx hb dX11_areGood_14 rfl hl (by decide) rfl (fun ls hl => ?_)
        refine lv_aload_n hx hb dX11_areGood_15 rfl (lv_at hl 1 rfl) ?_
        refine lv_iload_n hx hb dX11_areGood_16 rfl (lv_at hl 0 rfl) ?_
        obtain ⟨o2, hco2, h⟩ := bd_of h
        refine kV (rest := []) X dX11_areGood_17 wd_7_66 mw_X11_isLinked wd_7_68 wp_9_1 hP (k0 := 0) rfl rfl rfl hS (fun _ z => z) (c_X11_isLinked hco2) rfl hl.1 rfl (Nat.le_of_ble_eq_true rfl) rfl rfl ⟨Nat.le_of_ble_eq_true rfl, Nat.le_of_ble_eq_true rfl⟩ (fun H locs hP _ _ hS => ?_)
        refine W.eq (g2 := F0 m 20 ls [.int (bI o2)]) rfl ?_
        refine rb_ne (tgt := 66) hx hb dX11_areGood_20 rfl (fun c20 => ?_) (fun c20 => ?_)
        · have h := br_p c20 h
          exact b66 (f_X11_areGood_l2  m_orders m_order m_width  n) ih  x1 _ _ _ h hP hS (lv_sub hl [1, 2] rfl)
        · have h := br_n c20 h
          refine lv_aload_n hx hb dX11_areGood_23 rfl (lv_at hl 1 rfl) ?_
          refine lv_iconst (v := 0) hx hb dX11_areGood_24 rfl ?_
          refine lv_aload_n hx hb dX11_areGood_25 rfl (lv_at hl 1 rfl) ?_
          refine gf_X11_126_M_0 X hP dX11_areGood_26 ?_
          refine lv_iload_n hx hb dX11_areGood_29 rfl (lv_at hl 0 rfl) ?_
          obtain ⟨hi30, h⟩ := gv_of h
          refine al_M_3 X hP hi30 dX11_areGood_30 ?_
          refine lv_aload_n hx hb dX11_areGood_31 rfl (lv_at hl 1 rfl) ?_
          refine gf_X11_126_M_0 X hP dX11_areGood_32 ?_
          refine lv_iload_n hx hb dX11_areGood_35 rfl (lv_at hl 0 rfl) ?_
          refine lv_iconst (v := 1) hx hb dX11_areGood_36 rfl ?_
          refine lv_iadd hx hb dX11_areGood_37 ?_
          obtain ⟨hi38, h⟩ := gv_of h
          refine al_M_3 X hP hi38 dX11_areGood_38 ?_
          refine lv_i2l hx hb dX11_areGood_39 rfl ?_
          refine lv_aload_n hx hb dX11_areGood_40 rfl (lv_at hl 1 rfl) ?_
          refine gf_X11_126_M_0 X hP dX11_areGood_41 ?_
          refine lv_iload_n hx hb dX11_areGood_44 rfl (lv_at hl 0 rfl) ?_
          refine lv_iconst (v := 2) hx hb dX11_areGood_45 rfl ?_
          refine lv_iadd hx hb dX11_areGood_46 ?_
          obtain ⟨hi47, h⟩ := gv_of h
          refine al_M_3 X hP hi47 dX11_areGood_47 ?_
          refine lv_i2l hx hb dX11_areGood_48 rfl ?_
          refine lv_aload_n hx hb dX11_areGood_49 rfl (lv_at hl 1 rfl) ?_
          refine gf_X11_126_M_0 X hP dX11_areGood_50 ?_
          refine lv_iload_n hx hb dX11_areGood_53 rfl (lv_at hl 0 rfl) ?_
          refine lv_iconst (v := 3) hx hb dX11_areGood_54 rfl ?_
          refine lv_iadd hx hb dX11_areGood_55 ?_
          obtain ⟨hi56, h⟩ := gv_of h
          refine al_M_3 X hP hi56 dX11_areGood_56 ?_
          refine lv_i2l hx hb dX11_areGood_57 rfl ?_
          obtain ⟨o4, hco4, h⟩ := bd_of h
          refine kV (rest := []) X dX11_areGood_58 wd_6_204 mw_X11_isGood wd_6_206 wp_8_4 hP (k0 := 0) rfl rfl rfl hS (fun _ z => z) (c_X11_isGood hco4) rfl hl.1 rfl (Nat.le_of_ble_eq_true rfl) rfl rfl ⟨Nat.le_of_ble_eq_true rfl, Nat.le_of_ble_eq_true rfl⟩ (fun H locs hP _ _ hS => ?_)
          refine W.eq (g2 := F0 m 61 ls [.int (bI o4)]) rfl ?_
          refine rb_ne (tgt := 66) hx hb dX11_areGood_61 rfl (fun c61 => ?_) (fun c61 => ?_)
          · have h := br_p c61 h
            exact b66 (f_X11_areGood_l2  m_orders m_order m_width  n) ih  x1 _ _ _ h hP hS (lv_sub hl [1, 2] rfl)
          · have h := br_n c61 h
            refine lv_iconst (v := 0) hx hb dX11_areGood_64 rfl ?_
            exact ret h hP hS dX11_areGood_65
  unfold f_X11_areGood at h
  refine lv_iconst (v := 0) hx hb dX11_areGood_0 rfl ?_
  refine lv_istore_n (lv' := [(1, .int 0), (0, .ref (q 0))]) hx hb dX11_areGood_1 rfl hl (by decide) rfl (fun ls hl => ?_)
  exact l2  FU (0 : Int32) _ _ _ h hP hS (lv_sub hl [1, 0] rfl)
abbrev rm_X11_orders : Room := { frames := 8, cells := 0, slots := 0, locals := 179 }
set_option maxRecDepth 100000 in
set_option maxHeartbeats 4000000 in
theorem c_X11_orders {g : gT} {l : Launch} {A : Nat → Prop} {q : Nat → Nat} {m_thrown : Int32} {m_length : Int32} {m_at : Int32} {m_fault : Int32} {m_toldWords : Int32} {m_orders : Int32} {m_value : Int32} {m_hasUnit : Bool} {m_places : Int32} {m_clocks : Int32} {m_held : Bool} {m_x : Int64} {m_y : Int64} {m_z : Int64} {m_first : Int64} {m_second : Int64} {m_aside : Int32} {m_jobs : Int32} {m_jobsImage : Int32} {m_clocksImage : Int32} {m_heldImage : Bool} {m_hasImage : Bool} {m_tape : Nat → Int32} {m_read : Nat → Int32} {m_order : Nat → Int32} {m_width : Nat → Int32} {m_guard : Nat → Int32} {m_points : Nat → Int32} {m_stages : Nat → Int32} {m_gain : Nat → Int32} {m_undo : Nat → Int32} {m_near : Nat → Bool} {m_quarter : Nat → Int64} {m_ln : Nat → Int64} {m_angle : Nat → Int64} {m_shift : Nat → Int32} {m_digit : Nat → Int32} {m_refused : Nat → Int32} {m_job : Nat → Int32} {m_jobKept : Nat → Int32} {m_result : Nat → Int32} {m_resultKept : Nat → Int32} {m_trace : Nat → Int64} {m_traceKept : Nat → Int64} {m_jobImage : Nat → Int32} {m_resultImage : Nat → Int32} {m_traceImage : Nat → Int64}  {o : Int32 × Int32 × Int32 × Int32 × Int32 × Int32 × Int32 × Int32 × (Nat → Int32) × (Nat → Int32) × (Nat → Int32)} (h : f_X11_orders  m_thrown m_length m_at m_fault m_orders m_value m_hasUnit m_clocks m_jobs m_tape m_order m_width m_refused m_job = some o) : Std g l yX11_orders (.code yX11_orders cX11_orders 5 (some .int) :: gw) rm_X11_orders A [.ref (q 0)] (wM g q m_thrown m_length m_at m_fault m_toldWords m_orders m_value m_hasUnit m_places m_clocks m_held m_x m_y m_z m_first m_second m_aside m_jobs m_jobsImage m_clocksImage m_heldImage m_hasImage m_tape m_read m_order m_width m_guard m_points m_stages m_gain m_undo m_near m_quarter m_ln m_angle m_shift m_digit m_refused m_job m_jobKept m_result m_resultKept m_trace m_traceKept m_jobImage m_resultImage m_traceImage) (wM g q o.2.1 o.2.2.1 o.2.2.2.1 o.2.2.2.2.1 m_toldWords o.2.2.2.2.2.1 o.2.2.2.2.2.2.1 m_hasUnit m_places m_clocks m_held m_x m_y m_z m_first m_second m_aside o.2.2.2.2.2.2.2.1 m_jobsImage m_clocksImage m_heldImage m_hasImage m_tape m_read o.2.2.2.2.2.2.2.2.1 m_width m_guard m_points m_stages m_gain m_undo m_near m_quarter m_ln m_angle m_shift m_digit o.2.2.2.2.2.2.2.2.2.1 o.2.2.2.2.2.2.2.2.2.2 m_jobKept m_result m_resultKept m_trace m_traceKept m_jobImage m_resultImage m_traceImage) (some (.int o.1)) := by
  refine std_i (own := RX11) (by decide +kernel) rfl (Nat.le_of_ble_eq_true rfl) ?_
  intro p e s m args below meth c Q X ret H locs hP hS ls hl
  have hx := X.1
  have hb := X.2.1
  have hl : lv_has ls 5 [(0, .ref (q 0))] := hl
  have ret : ∀ {H : Heap} {locs : List Loc} {pc : Nat} {ls : Array Slot} {v : Int32} {m_thrown : Int32} {m_length : Int32} {m_at : Int32} {m_fault : Int32} {m_orders : Int32} {m_value : Int32} {m_jobs : Int32} {m_order : Nat → Int32} {m_refused : Nat → Int32} {m_job : Nat → Int32}, some (v, m_thrown, m_length, m_at, m_fault, m_orders, m_value, m_jobs, m_order, m_refused, m_job) = some o → WP g A (wM g q m_thrown m_length m_at m_fault m_toldWords m_orders m_value m_hasUnit m_places m_clocks m_held m_x m_y m_z m_first m_second m_aside m_jobs m_jobsImage m_clocksImage m_heldImage m_hasImage m_tape m_read m_order m_width m_guard m_points m_stages m_gain m_undo m_near m_quarter m_ln m_angle m_shift m_digit m_refused m_job m_jobKept m_result m_resultKept m_trace m_traceKept m_jobImage m_resultImage m_traceImage) H → va_S A s.heap H locs → decode cX11_orders pc = .ok (.ireturn, 1) → W p l e rm_X11_orders s m args below meth c H locs 0 0 Q (F0 m pc ls [.int v]) := by
    intro H locs pc ls v m_thrown m_length m_at m_fault m_orders m_value m_jobs m_order m_refused m_job h hP hS hd
    cases h
    exact ret hP hS hd
  have b33 : ∀ (m_thrown : Int32) (m_length : Int32) (m_at : Int32) (m_fault : Int32) (m_orders : Int32) (m_value : Int32) (m_jobs : Int32) (m_order : Nat → Int32) (m_refused : Nat → Int32) (m_job : Nat → Int32) (H : Heap) (locs : List Loc) (ls : Array Slot), f_X11_orders_b33  m_hasUnit m_clocks m_tape m_width  m_thrown m_length m_at m_fault m_orders m_value m_jobs m_order m_refused m_job = some o → WP g A (wM g q m_thrown m_length m_at m_fault m_toldWords m_orders m_value m_hasUnit m_places m_clocks m_held m_x m_y m_z m_first m_second m_aside m_jobs m_jobsImage m_clocksImage m_heldImage m_hasImage m_tape m_read m_order m_width m_guard m_points m_stages m_gain m_undo m_near m_quarter m_ln m_angle m_shift m_digit m_refused m_job m_jobKept m_result m_resultKept m_trace m_traceKept m_jobImage m_resultImage m_traceImage) H → va_S A s.heap H locs → lv_has ls 5 [(0, .ref (q 0))] → W p l e rm_X11_orders s m args below meth c H locs 0 0 Q (F0 m 33 ls []) := by
    intro  m_thrown m_length m_at m_fault m_orders m_value m_jobs m_order m_refused m_job H locs ls h hP hS hl
    unfold f_X11_orders_b33 at h
    refine lv_aload_n hx hb dX11_orders_33 rfl (lv_at hl 0 rfl) ?_
    refine lv_iconst (v := 1) hx hb dX11_orders_34 rfl ?_
    obtain ⟨o2, hco2, h⟩ := bd_of h
    refine kV (rest := []) X dX11_orders_35 wd_7_50 mw_X11_refuse wd_7_52 wp_8_14 hP (k0 := 0) rfl rfl rfl hS (fun _ z => z) (c_X11_refuse hco2) rfl hl.1 rfl (Nat.le_of_ble_eq_true rfl) rfl rfl ⟨Nat.le_of_ble_eq_true rfl, Nat.le_of_ble_eq_true rfl⟩ (fun H locs hP _ _ hS => ?_)
    refine W.eq (g2 := F0 m 38 ls [.int o2.1]) rfl ?_
    exact ret h hP hS dX11_orders_38
  have b174 : ∀ (k71 : Int32 → Int32 → Int32 → Int32 → Int32 → Int32 → Int32 → Int32 → Int32 → (Nat → Int32) → (Nat → Int32) → (Nat → Int32) → Option (Int32 × Int32 × Int32 × Int32 × Int32 × Int32 × Int32 × Int32 × (Nat → Int32) × (Nat → Int32) × (Nat → Int32))) (hk71 : ∀ (x1 : Int32) (x2 : Int32) (m_thrown : Int32) (m_length : Int32) (m_at : Int32) (m_fault : Int32) (m_orders : Int32) (m_value : Int32) (m_jobs : Int32) (m_order : Nat → Int32) (m_refused : Nat → Int32) (m_job : Nat → Int32) (H : Heap) (locs : List Loc) (ls : Array Slot), k71 x1 x2 m_thrown m_length m_at m_fault m_orders m_value m_jobs m_order m_refused m_job = some o → WP g A (wM g q m_thrown m_length m_at m_fault m_toldWords m_orders m_value m_hasUnit m_places m_clocks m_held m_x m_y m_z m_first m_second m_aside m_jobs m_jobsImage m_clocksImage m_heldImage m_hasImage m_tape m_read m_order m_width m_guard m_points m_stages m_gain m_undo m_near m_quarter m_ln m_angle m_shift m_digit m_refused m_job m_jobKept m_result m_resultKept m_trace m_traceKept m_jobImage m_resultImage m_traceImage) H → va_S A s.heap H locs → lv_has ls 5 [(0, .ref (q 0)), (1, .int x1), (2, .int x2)] → W p l e rm_X11_orders s m args below meth c H locs 0 0 Q (F0 m 71 ls [])) (k121 : Int32 → Int32 → Int32 → Int32 → Int32 → Int32 → Int32 → Int32 → Int32 → Int32 → Int32 → (Nat → Int32) → (Nat → Int32) → (Nat → Int32) → Option (Int32 × Int32 × Int32 × Int32 × Int32 × Int32 × Int32 × Int32 × (Nat → Int32) × (Nat → Int32) × (Nat → Int32))) (hk121 : ∀ (x1 : Int32) (x2 : Int32) (x3 : Int32) (x4 : Int32) (m_thrown : Int32) (m_length : Int32) (m_at : Int32) (m_fault : Int32) (m_orders : Int32) (m_value : Int32) (m_jobs : Int32) (m_order : Nat → Int32) (m_refused : Nat → Int32) (m_job : Nat → Int32) (H : Heap) (locs : List Loc) (ls : Array Slot), k121 x1 x2 x3 x4 m_thrown m_length m_at m_fault m_orders m_value m_jobs m_order m_refused m_job = some o → WP g A (wM g q m_thrown m_length m_at m_fault m_toldWords m_orders m_value m_hasUnit m_places m_clocks m_held m_x m_y m_z m_first m_second m_aside m_jobs m_jobsImage m_clocksImage m_heldImage m_hasImage m_tape m_read m_order m_width m_guard m_points m_stages m_gain m_undo m_near m_quarter m_ln m_angle m_shift m_digit m_refused m_job m_jobKept m_result m_resultKept m_trace m_traceKept m_jobImage m_resultImage m_traceImage) H → va_S A s.heap H locs → lv_has ls 5 [(0, .ref (q 0)), (1, .int x1), (2, .int x2), (3, .int x3), (4, .int x4)] → W p l e rm_X11_orders s m args below meth c H locs 0 0 Q (F0 m 121 ls [])) , ∀ (x1 : Int32) (x2 : Int32) (x3 : Int32) (x4 : Int32) (m_thrown : Int32) (m_length : Int32) (m_at : Int32) (m_fault : Int32) (m_orders : Int32) (m_value : Int32) (m_jobs : Int32) (m_order : Nat → Int32) (m_refused : Nat → Int32) (m_job : Nat → Int32) (H : Heap) (locs : List Loc) (ls : Array Slot), f_X11_orders_b174  m_hasUnit m_clocks m_tape m_width k71 k121 x1 x2 x3 x4 m_thrown m_length m_at m_fault m_orders m_value m_jobs m_order m_refused m_job = some o → WP g A (wM g q m_thrown m_length m_at m_fault m_toldWords m_orders m_value m_hasUnit m_places m_clocks m_held m_x m_y m_z m_first m_second m_aside m_jobs m_jobsImage m_clocksImage m_heldImage m_hasImage m_tape m_read m_order m_width m_guard m_points m_stages m_gain m_undo m_near m_quarter m_ln m_angle m_shift m_digit m_refused m_job m_jobKept m_result m_resultKept m_trace m_traceKept m_jobImage m_resultImage m_traceImage) H → va_S A s.heap H locs → lv_has ls 5 [(0, .ref (q 0)), (1, .int x1), (2, .int x2), (3, .int x3), (4, .int x4)] → W p l e rm_X11_orders s m args below meth c H locs 0 0 Q (F0 m 174 ls []) := by
    intro k71 hk71 k121 hk121 x1 x2 x3 x4 m_thrown m_length m_at m_fault m_orders m_value m_jobs m_order m_refused m_job H locs ls h hP hS hl
    unfold f_X11_orders_b174 at h
    obtain ⟨v7, ev7⟩ : ∃ z : Int32, z = (x4 + 1) := ⟨_, rfl⟩
    have h := lt_at ev7 h
    refine lv_iinc (v := v7) (lv' := [(4, .int v7), (0, .ref (q 0)), (1, .int x1), (2, .int x2), (3, .int x3)]) hx hb dX11_orders_174 hl (k := 4) rfl (by rw [ev7]; rfl) (by decide) rfl (fun ls hl => ?_)
    refine lv_goto (tgt := 121) hx hb dX11_orders_177 rfl ?_
    exact hk121 x1 x2 x3 v7 m_thrown m_length m_at m_fault m_orders m_value m_jobs m_order m_refused m_job _ _ _ h hP hS (lv_sub hl [1, 2, 3, 4, 0] rfl)
  have l121 : ∀ (k71 : Int32 → Int32 → Int32 → Int32 → Int32 → Int32 → Int32 → Int32 → Int32 → (Nat → Int32) → (Nat → Int32) → (Nat → Int32) → Option (Int32 × Int32 × Int32 × Int32 × Int32 × Int32 × Int32 × Int32 × (Nat → Int32) × (Nat → Int32) × (Nat → Int32))) (hk71 : ∀ (x1 : Int32) (x2 : Int32) (m_thrown : Int32) (m_length : Int32) (m_at : Int32) (m_fault : Int32) (m_orders : Int32) (m_value : Int32) (m_jobs : Int32) (m_order : Nat → Int32) (m_refused : Nat → Int32) (m_job : Nat → Int32) (H : Heap) (locs : List Loc) (ls : Array Slot), k71 x1 x2 m_thrown m_length m_at m_fault m_orders m_value m_jobs m_order m_refused m_job = some o → WP g A (wM g q m_thrown m_length m_at m_fault m_toldWords m_orders m_value m_hasUnit m_places m_clocks m_held m_x m_y m_z m_first m_second m_aside m_jobs m_jobsImage m_clocksImage m_heldImage m_hasImage m_tape m_read m_order m_width m_guard m_points m_stages m_gain m_undo m_near m_quarter m_ln m_angle m_shift m_digit m_refused m_job m_jobKept m_result m_resultKept m_trace m_traceKept m_jobImage m_resultImage m_traceImage) H → va_S A s.heap H locs → lv_has ls 5 [(0, .ref (q 0)), (1, .int x1), (2, .int x2)] → W p l e rm_X11_orders s m args below meth c H locs 0 0 Q (F0 m 71 ls [])) (n : Nat), ∀ (x1 : Int32) (x2 : Int32) (x3 : Int32) (x4 : Int32) (m_thrown : Int32) (m_length : Int32) (m_at : Int32) (m_fault : Int32) (m_orders : Int32) (m_value : Int32) (m_jobs : Int32) (m_order : Nat → Int32) (m_refused : Nat → Int32) (m_job : Nat → Int32) (H : Heap) (locs : List Loc) (ls : Array Slot), f_X11_orders_l121  m_hasUnit m_clocks m_tape m_width k71 n x1 x2 x3 x4 m_thrown m_length m_at m_fault m_orders m_value m_jobs m_order m_refused m_job = some o → WP g A (wM g q m_thrown m_length m_at m_fault m_toldWords m_orders m_value m_hasUnit m_places m_clocks m_held m_x m_y m_z m_first m_second m_aside m_jobs m_jobsImage m_clocksImage m_heldImage m_hasImage m_tape m_read m_order m_width m_guard m_points m_stages m_gain m_undo m_near m_quarter m_ln m_angle m_shift m_digit m_refused m_job m_jobKept m_result m_resultKept m_trace m_traceKept m_jobImage m_resultImage m_traceImage) H → va_S A s.heap H locs → lv_has ls 5 [(0, .ref (q 0)), (1, .int x1), (2, .int x2), (3, .int x3), (4, .int x4)] → W p l e rm_X11_orders s m args below meth c H locs 0 0 Q (F0 m 121 ls []) := by
    intro k71 hk71 n
    induction n with
    | zero =>
      intro x1 x2 x3 x4 m_thrown m_length m_at m_fault m_orders m_value m_jobs m_order m_refused m_job H locs ls h
      exact nz_of h
    | succ n ih =>
      intro x1 x2 x3 x4 m_thrown m_length m_at m_fault m_orders m_value m_jobs m_order m_refused m_job H locs ls h hP hS hl
      rw [f_X11_orders_l121] at h
      refine lv_iload hx hb dX11_orders_121 (lv_at hl 4 rfl) ?_
      refine lv_iconst (v := 3) hx hb dX11_orders_123 rfl ?_
      refine lv_icmp_ge (tgt := 180) hx hb dX11_orders_124 rfl (fun c124 => ?_) (fun c124 => ?_)
      · have h := br_p c124 h
        obtain ⟨v6, ev6⟩ : ∃ z : Int32, z = (x2 + 1) := ⟨_, rfl⟩
        have h := lt_at ev6 h
        refine lv_iinc (v := v6) (lv' := [(2, .int v6), (0, .ref (q 0)), (1, .int x1), (3, .int x3), (4, .int x4)]) hx hb dX11_orders_180 hl (k := 2) rfl (by rw [ev6]; rfl) (by decide) rfl (fun ls hl => ?_)
        refine lv_goto (tgt := 71) hx hb dX11_orders_183 rfl ?_
        exact hk71 x1 v6 m_thrown m_length m_at m_fault m_orders m_value m_jobs m_order m_refused m_job _ _ _ h hP hS (lv_sub hl [1, 2, 0] rfl)
      · have h := br_n c124 h
        refine lv_aload_n hx hb dX11_orders_127 rfl (lv_at hl 0 rfl) ?_
        refine gf_X11_126_M_0 X hP dX11_orders_128 ?_
        refine lv_iload_n hx hb dX11_orders_131 rfl (lv_at hl 3 rfl) ?_
        refine lv_iconst (v := 4) hx hb dX11_orders_132 rfl ?_
        refine lv_iadd hx hb dX11_orders_133 ?_
        refine lv_iload hx hb dX11_orders_134 (lv_at hl 4 rfl) ?_
        refine lv_iadd hx hb dX11_orders_136 ?_
        obtain ⟨hi137, h⟩ := gv_of h
        refine al_M_3 X hP hi137 dX11_orders_137 ?_
        refine lv_iconst (v := (-1)) hx hb dX11_orders_138 rfl ?_
        refine lv_icmp_eq (tgt := 174) hx hb dX11_orders_139 rfl (fun c139 => ?_) (fun c139 => ?_)
        · have h := br_p c139 h
          exact b174 k71 hk71 (f_X11_orders_l121  m_hasUnit m_clocks m_tape m_width k71 n) ih  x1 x2 x3 x4 m_thrown m_length m_at m_fault m_orders m_value m_jobs m_order m_refused m_job _ _ _ h hP hS (lv_sub hl [0, 1, 2, 3, 4] rfl)
        · have h := br_n c139 h
          refine lv_aload_n hx hb dX11_orders_142 rfl (lv_at hl 0 rfl) ?_
          refine gf_X11_226_M_0 X hP dX11_orders_143 ?_
          refine lv_bipush (v := 14) hx hb dX11_orders_146 rfl ?_
          refine lv_iload_n hx hb dX11_orders_148 rfl (lv_at hl 1 rfl) ?_
          refine lv_iload_n hx hb dX11_orders_149 rfl (lv_at hl 2 rfl) ?_
          refine lv_iadd hx hb dX11_orders_150 ?_
          refine lv_imul hx hb dX11_orders_151 ?_
          refine lv_bipush (v := 10) hx hb dX11_orders_152 rfl ?_
          refine lv_iadd hx hb dX11_orders_154 ?_
          refine lv_iload hx hb dX11_orders_155 (lv_at hl 4 rfl) ?_
          refine lv_iadd hx hb dX11_orders_157 ?_
          refine lv_aload_n hx hb dX11_orders_158 rfl (lv_at hl 0 rfl) ?_
          refine gf_X11_126_M_0 X hP dX11_orders_159 ?_
          refine lv_iload_n hx hb dX11_orders_162 rfl (lv_at hl 3 rfl) ?_
          refine lv_iconst (v := 4) hx hb dX11_orders_163 rfl ?_
          refine lv_iadd hx hb dX11_orders_164 ?_
          refine lv_iload hx hb dX11_orders_165 (lv_at hl 4 rfl) ?_
          refine lv_iadd hx hb dX11_orders_167 ?_
          obtain ⟨hi168, h⟩ := gv_of h
          refine al_M_3 X hP hi168 dX11_orders_168 ?_
          refine lv_iconst (v := 2) hx hb dX11_orders_169 rfl ?_
          refine lv_iload_n hx hb dX11_orders_170 rfl (lv_at hl 1 rfl) ?_
          refine lv_imul hx hb dX11_orders_171 ?_
          refine lv_iadd hx hb dX11_orders_172 ?_
          refine lv_topi (fun v8 ev8 => ?_)
          have h := lt_at ev8 h
          obtain ⟨hi173, h⟩ := gv_of h
          refine as_M_17 (v0 := v8) X hP hS hi173 dX11_orders_173 (fun H locs hP hS => ?_)
          exact b174 k71 hk71 (f_X11_orders_l121  m_hasUnit m_clocks m_tape m_width k71 n) ih  x1 x2 x3 x4 m_thrown m_length m_at m_fault m_orders m_value m_jobs m_order m_refused (upd m_job (((((14 : Int32) * (x1 + x2)) + (10 : Int32)) + x4)).toNatClampNeg v8) _ _ _ h hP hS (lv_sub hl [0, 1, 2, 3, 4] rfl)
  have l71 : ∀ (n : Nat), ∀ (x1 : Int32) (x2 : Int32) (m_thrown : Int32) (m_length : Int32) (m_at : Int32) (m_fault : Int32) (m_orders : Int32) (m_value : Int32) (m_jobs : Int32) (m_order : Nat → Int32) (m_refused : Nat → Int32) (m_job : Nat → Int32) (H : Heap) (locs : List Loc) (ls : Array Slot), f_X11_orders_l71  m_hasUnit m_clocks m_tape m_width  n x1 x2 m_thrown m_length m_at m_fault m_orders m_value m_jobs m_order m_refused m_job = some o → WP g A (wM g q m_thrown m_length m_at m_fault m_toldWords m_orders m_value m_hasUnit m_places m_clocks m_held m_x m_y m_z m_first m_second m_aside m_jobs m_jobsImage m_clocksImage m_heldImage m_hasImage m_tape m_read m_order m_width m_guard m_points m_stages m_gain m_undo m_near m_quarter m_ln m_angle m_shift m_digit m_refused m_job m_jobKept m_result m_resultKept m_trace m_traceKept m_jobImage m_resultImage m_traceImage) H → va_S A s.heap H locs → lv_has ls 5 [(0, .ref (q 0)), (1, .int x1), (2, .int x2)] → W p l e rm_X11_orders s m args below meth c H locs 0 0 Q (F0 m 71 ls []) := by
    intro  n
    induction n with
    | zero =>
      intro x1 x2 m_thrown m_length m_at m_fault m_orders m_value m_jobs m_order m_refused m_job H locs ls h
      exact nz_of h
    | succ n ih =>
      intro x1 x2 m_thrown m_length m_at m_fault m_orders m_value m_jobs m_order m_refused m_job H locs ls h hP hS hl
      rw [f_X11_orders_l71] at h
      refine lv_iload_n hx hb dX11_orders_71 rfl (lv_at hl 2 rfl) ?_
      refine lv_aload_n hx hb dX11_orders_72 rfl (lv_at hl 0 rfl) ?_
      refine gf_X11_123_M_0 X hP dX11_orders_73 ?_
      refine lv_icmp_ge (tgt := 186) hx hb dX11_orders_76 rfl (fun c76 => ?_) (fun c76 => ?_)
      · have h := br_p c76 h
        refine lv_aload_n hx hb dX11_orders_186 rfl (lv_at hl 0 rfl) ?_
        refine gf_X11_123_M_0 X hP dX11_orders_187 ?_
        exact ret h hP hS dX11_orders_190
      · have h := br_n c76 h
        refine lv_bipush (v := 7) hx hb dX11_orders_79 rfl ?_
        refine lv_iload_n hx hb dX11_orders_81 rfl (lv_at hl 2 rfl) ?_
        refine lv_imul hx hb dX11_orders_82 ?_
        refine lv_topi (fun v4 ev4 => ?_)
        have h := lt_at ev4 h
        refine lv_istore_n (lv' := [(3, .int v4), (0, .ref (q 0)), (1, .int x1), (2, .int x2)]) hx hb dX11_orders_83 rfl hl (by decide) rfl (fun ls hl => ?_)
        refine lv_aload_n hx hb dX11_orders_84 rfl (lv_at hl 1 rfl) ?_
        refine lv_aload_n hx hb dX11_orders_85 rfl (lv_at hl 1 rfl) ?_
        refine gf_X11_126_M_0 X hP dX11_orders_86 ?_
        refine lv_iload_n hx hb dX11_orders_89 rfl (lv_at hl 0 rfl) ?_
        obtain ⟨hi90, h⟩ := gv_of h
        refine al_M_3 X hP hi90 dX11_orders_90 ?_
        refine lv_aload_n hx hb dX11_orders_91 rfl (lv_at hl 1 rfl) ?_
        refine gf_X11_126_M_0 X hP dX11_orders_92 ?_
        refine lv_iload_n hx hb dX11_orders_95 rfl (lv_at hl 0 rfl) ?_
        refine lv_iconst (v := 1) hx hb dX11_orders_96 rfl ?_
        refine lv_iadd hx hb dX11_orders_97 ?_
        obtain ⟨hi98, h⟩ := gv_of h
        refine al_M_3 X hP hi98 dX11_orders_98 ?_
        refine lv_aload_n hx hb dX11_orders_99 rfl (lv_at hl 1 rfl) ?_
        refine gf_X11_126_M_0 X hP dX11_orders_100 ?_
        refine lv_iload_n hx hb dX11_orders_103 rfl (lv_at hl 0 rfl) ?_
        refine lv_iconst (v := 2) hx hb dX11_orders_104 rfl ?_
        refine lv_iadd hx hb dX11_orders_105 ?_
        obtain ⟨hi106, h⟩ := gv_of h
        refine al_M_3 X hP hi106 dX11_orders_106 ?_
        refine lv_aload_n hx hb dX11_orders_107 rfl (lv_at hl 1 rfl) ?_
        refine gf_X11_126_M_0 X hP dX11_orders_108 ?_
        refine lv_iload_n hx hb dX11_orders_111 rfl (lv_at hl 0 rfl) ?_
        refine lv_iconst (v := 3) hx hb dX11_orders_112 rfl ?_
        refine lv_iadd hx hb dX11_orders_113 ?_
        obtain ⟨hi114, h⟩ := gv_of h
        refine al_M_3 X hP hi114 dX11_orders_114 ?_
        obtain ⟨o5, hco5, h⟩ := bd_of h
        refine kV (rest := []) X dX11_orders_115 wd_7_54 mw_X11_adds wd_7_56 wp_8_15 hP (k0 := 0) rfl rfl rfl hS (fun _ z => z) (c_X11_adds hco5) rfl hl.1 rfl (Nat.le_of_ble_eq_true rfl) rfl rfl ⟨Nat.le_of_ble_eq_true rfl, Nat.le_of_ble_eq_true rfl⟩ (fun H locs hP _ _ hS => ?_)
        refine W.eq (g2 := F0 m 118 ls []) rfl ?_
        refine lv_iconst (v := 0) hx hb dX11_orders_118 rfl ?_
        refine lv_istore (lv' := [(4, .int 0), (3, .int v4), (0, .ref (q 0)), (1, .int x1), (2, .int x2)]) hx hb dX11_orders_119 hl (by decide) rfl (fun ls hl => ?_)
        exact l121 (f_X11_orders_l71  m_hasUnit m_clocks m_tape m_width  n) ih FU x1 x2 v4 (0 : Int32) m_thrown m_length m_at m_fault m_orders m_value o5.1 m_order m_refused o5.2 _ _ _ h hP hS (lv_sub hl [2, 3, 4, 1, 0] rfl)
  unfold f_X11_orders at h
  refine lv_aload_n hx hb dX11_orders_0 rfl (lv_at hl 0 rfl) ?_
  refine lv_iconst (v := 0) hx hb dX11_orders_1 rfl ?_
  refine pf_X11_5_M_0 (v0 := (0 : Int32)) X hP hS dX11_orders_2 (fun H locs hP hS => ?_)
  refine lv_aload_n hx hb dX11_orders_5 rfl (lv_at hl 0 rfl) ?_
  refine gf_X11_260_M_0 X hP dX11_orders_6 ?_
  refine rb_ne (tgt := 18) hx hb dX11_orders_9 rfl (fun c9 => ?_) (fun c9 => ?_)
  · have h := br_p c9 h
    refine lv_aload_n hx hb dX11_orders_18 rfl (lv_at hl 0 rfl) ?_
    obtain ⟨o1, hco1, h⟩ := bd_of h
    refine kV (rest := []) X dX11_orders_19 wd_5_156 mw_X11_readsOrders wd_5_158 wp_7_2 hP (k0 := 0) rfl rfl rfl hS (fun _ z => z) (c_X11_readsOrders hco1) rfl hl.1 rfl (Nat.le_of_ble_eq_true rfl) rfl rfl ⟨Nat.le_of_ble_eq_true rfl, Nat.le_of_ble_eq_true rfl⟩ (fun H locs hP _ _ hS => ?_)
    refine W.eq (g2 := F0 m 22 ls [.int o1.1]) rfl ?_
    refine lv_iconst (v := (-1)) hx hb dX11_orders_22 rfl ?_
    refine lv_icmp_ne (tgt := 33) hx hb dX11_orders_23 rfl (fun c23 => ?_) (fun c23 => ?_)
    · have h := br_n c23 h
      exact b33   (0 : Int32) m_length o1.2.1 o1.2.2.1 o1.2.2.2.1 o1.2.2.2.2.1 m_jobs o1.2.2.2.2.2 m_refused m_job _ _ _ h hP hS (lv_sub hl [0] rfl)
    · have h := br_p c23 h
      refine lv_aload_n hx hb dX11_orders_26 rfl (lv_at hl 0 rfl) ?_
      obtain ⟨o3, hco3, h⟩ := bd_of h
      refine kV (rest := []) X dX11_orders_27 wd_7_62 mw_X11_areGood wd_7_64 wp_9_0 hP (k0 := 0) rfl rfl rfl hS (fun _ z => z) (c_X11_areGood hco3) rfl hl.1 rfl (Nat.le_of_ble_eq_true rfl) rfl rfl ⟨Nat.le_of_ble_eq_true rfl, Nat.le_of_ble_eq_true rfl⟩ (fun H locs hP _ _ hS => ?_)
      refine W.eq (g2 := F0 m 30 ls [.int (bI o3)]) rfl ?_
      refine rb_ne (tgt := 39) hx hb dX11_orders_30 rfl (fun c30 => ?_) (fun c30 => ?_)
      · have h := br_p c30 h
        refine lv_aload_n hx hb dX11_orders_39 rfl (lv_at hl 0 rfl) ?_
        refine gf_X11_273_M_0 X hP dX11_orders_40 ?_
        refine lv_aload_n hx hb dX11_orders_43 rfl (lv_at hl 0 rfl) ?_
        refine gf_X11_123_M_0 X hP dX11_orders_44 ?_
        refine lv_iadd hx hb dX11_orders_47 ?_
        refine lv_bipush (v := 60) hx hb dX11_orders_48 rfl ?_
        refine lv_icmp_le (tgt := 59) hx hb dX11_orders_50 rfl (fun c50 => ?_) (fun c50 => ?_)
        · have h := br_p c50 h
          refine lv_aload_n hx hb dX11_orders_59 rfl (lv_at hl 0 rfl) ?_
          refine lv_iconst (v := 0) hx hb dX11_orders_60 rfl ?_
          refine pf_X11_13_M_0 (v0 := (0 : Int32)) X hP hS dX11_orders_61 (fun H locs hP hS => ?_)
          refine lv_aload_n hx hb dX11_orders_64 rfl (lv_at hl 0 rfl) ?_
          refine gf_X11_273_M_0 X hP dX11_orders_65 ?_
          refine lv_istore_n (lv' := [(1, .int m_jobs), (0, .ref (q 0))]) hx hb dX11_orders_68 rfl hl (by decide) rfl (fun ls hl => ?_)
          refine lv_iconst (v := 0) hx hb dX11_orders_69 rfl ?_
          refine lv_istore_n (lv' := [(2, .int 0), (1, .int m_jobs), (0, .ref (q 0))]) hx hb dX11_orders_70 rfl hl (by decide) rfl (fun ls hl => ?_)
          exact l71  FU m_jobs (0 : Int32) (0 : Int32) (0 : Int32) o1.2.1 o1.2.2.1 o1.2.2.2.1 o1.2.2.2.2.1 m_jobs o1.2.2.2.2.2 m_refused m_job _ _ _ h hP hS (lv_sub hl [2, 1, 0] rfl)
        · have h := br_n c50 h
          refine lv_aload_n hx hb dX11_orders_53 rfl (lv_at hl 0 rfl) ?_
          refine lv_iconst (v := 2) hx hb dX11_orders_54 rfl ?_
          obtain ⟨o9, hco9, h⟩ := bd_of h
          refine kV (rest := []) X dX11_orders_55 wd_7_50 mw_X11_refuse wd_7_52 wp_8_14 hP (k0 := 0) rfl rfl rfl hS (fun _ z => z) (c_X11_refuse hco9) rfl hl.1 rfl (Nat.le_of_ble_eq_true rfl) rfl rfl ⟨Nat.le_of_ble_eq_true rfl, Nat.le_of_ble_eq_true rfl⟩ (fun H locs hP _ _ hS => ?_)
          refine W.eq (g2 := F0 m 58 ls [.int o9.1]) rfl ?_
          exact ret h hP hS dX11_orders_58
      · have h := br_n c30 h
        exact b33   (0 : Int32) m_length o1.2.1 o1.2.2.1 o1.2.2.2.1 o1.2.2.2.2.1 m_jobs o1.2.2.2.2.2 m_refused m_job _ _ _ h hP hS (lv_sub hl [0] rfl)
  · have h := br_n c9 h
    refine lv_aload_n hx hb dX11_orders_12 rfl (lv_at hl 0 rfl) ?_
    refine lv_iconst (v := 0) hx hb dX11_orders_13 rfl ?_
    obtain ⟨o10, hco10, h⟩ := bd_of h
    refine kV (rest := []) X dX11_orders_14 wd_7_50 mw_X11_refuse wd_7_52 wp_8_14 hP (k0 := 0) rfl rfl rfl hS (fun _ z => z) (c_X11_refuse hco10) rfl hl.1 rfl (Nat.le_of_ble_eq_true rfl) rfl rfl ⟨Nat.le_of_ble_eq_true rfl, Nat.le_of_ble_eq_true rfl⟩ (fun H locs hP _ _ hS => ?_)
    refine W.eq (g2 := F0 m 17 ls [.int o10.1]) rfl ?_
    exact ret h hP hS dX11_orders_17
abbrev rm_X11_isWanted : Room := { frames := 1, cells := 0, slots := 0, locals := 22 }
set_option maxRecDepth 100000 in
set_option maxHeartbeats 4000000 in
theorem c_X11_isWanted {g : gT} {l : Launch} {A : Nat → Prop} {q : Nat → Nat} {m_thrown : Int32} {m_length : Int32} {m_at : Int32} {m_fault : Int32} {m_toldWords : Int32} {m_orders : Int32} {m_value : Int32} {m_hasUnit : Bool} {m_places : Int32} {m_clocks : Int32} {m_held : Bool} {m_x : Int64} {m_y : Int64} {m_z : Int64} {m_first : Int64} {m_second : Int64} {m_aside : Int32} {m_jobs : Int32} {m_jobsImage : Int32} {m_clocksImage : Int32} {m_heldImage : Bool} {m_hasImage : Bool} {m_tape : Nat → Int32} {m_read : Nat → Int32} {m_order : Nat → Int32} {m_width : Nat → Int32} {m_guard : Nat → Int32} {m_points : Nat → Int32} {m_stages : Nat → Int32} {m_gain : Nat → Int32} {m_undo : Nat → Int32} {m_near : Nat → Bool} {m_quarter : Nat → Int64} {m_ln : Nat → Int64} {m_angle : Nat → Int64} {m_shift : Nat → Int32} {m_digit : Nat → Int32} {m_refused : Nat → Int32} {m_job : Nat → Int32} {m_jobKept : Nat → Int32} {m_result : Nat → Int32} {m_resultKept : Nat → Int32} {m_trace : Nat → Int64} {m_traceKept : Nat → Int64} {m_jobImage : Nat → Int32} {m_resultImage : Nat → Int32} {m_traceImage : Nat → Int64} {p0 : Int32} {o : Bool} (h : f_X11_isWanted p0 m_jobs m_job = some o) : Std g l yX11_isWanted (.code yX11_isWanted cX11_isWanted 4 (some .boolean) :: gw) rm_X11_isWanted A [.ref (q 0), .int p0] (wM g q m_thrown m_length m_at m_fault m_toldWords m_orders m_value m_hasUnit m_places m_clocks m_held m_x m_y m_z m_first m_second m_aside m_jobs m_jobsImage m_clocksImage m_heldImage m_hasImage m_tape m_read m_order m_width m_guard m_points m_stages m_gain m_undo m_near m_quarter m_ln m_angle m_shift m_digit m_refused m_job m_jobKept m_result m_resultKept m_trace m_traceKept m_jobImage m_resultImage m_traceImage) (wM g q m_thrown m_length m_at m_fault m_toldWords m_orders m_value m_hasUnit m_places m_clocks m_held m_x m_y m_z m_first m_second m_aside m_jobs m_jobsImage m_clocksImage m_heldImage m_hasImage m_tape m_read m_order m_width m_guard m_points m_stages m_gain m_undo m_near m_quarter m_ln m_angle m_shift m_digit m_refused m_job m_jobKept m_result m_resultKept m_trace m_traceKept m_jobImage m_resultImage m_traceImage) (some (.int (bI o))) := by
  refine std_z (own := RX11) (by decide +kernel) rfl (Nat.le_of_ble_eq_true rfl) ?_
  intro p e s m args below meth c Q X ret H locs hP hS ls hl
  have hx := X.1
  have hb := X.2.1
  have hl : lv_has ls 4 [(0, .ref (q 0)), (1, .int p0)] := hl
  have ret : ∀ {H : Heap} {locs : List Loc} {pc : Nat} {ls : Array Slot} {v : Bool} , some (v) = some o → WP g A (wM g q m_thrown m_length m_at m_fault m_toldWords m_orders m_value m_hasUnit m_places m_clocks m_held m_x m_y m_z m_first m_second m_aside m_jobs m_jobsImage m_clocksImage m_heldImage m_hasImage m_tape m_read m_order m_width m_guard m_points m_stages m_gain m_undo m_near m_quarter m_ln m_angle m_shift m_digit m_refused m_job m_jobKept m_result m_resultKept m_trace m_traceKept m_jobImage m_resultImage m_traceImage) H → va_S A s.heap H locs → decode cX11_isWanted pc = .ok (.ireturn, 1) → W p l e rm_X11_isWanted s m args below meth c H locs 0 0 Q (F0 m pc ls [.int (bI v)]) := by
    intro H locs pc ls v h hP hS hd
    cases h
    exact ret hP hS hd
  have b67 : ∀ (k4 : Int32 → Int32 → Option (Bool)) (hk4 : ∀ (x1 : Int32) (x2 : Int32) (H : Heap) (locs : List Loc) (ls : Array Slot), k4 x1 x2 = some o → WP g A (wM g q m_thrown m_length m_at m_fault m_toldWords m_orders m_value m_hasUnit m_places m_clocks m_held m_x m_y m_z m_first m_second m_aside m_jobs m_jobsImage m_clocksImage m_heldImage m_hasImage m_tape m_read m_order m_width m_guard m_points m_stages m_gain m_undo m_near m_quarter m_ln m_angle m_shift m_digit m_refused m_job m_jobKept m_result m_resultKept m_trace m_traceKept m_jobImage m_resultImage m_traceImage) H → va_S A s.heap H locs → lv_has ls 4 [(0, .ref (q 0)), (1, .int x1), (2, .int x2)] → W p l e rm_X11_isWanted s m args below meth c H locs 0 0 Q (F0 m 4 ls [])) , ∀ (x1 : Int32) (x2 : Int32) (H : Heap) (locs : List Loc) (ls : Array Slot), f_X11_isWanted_b67  m_jobs m_job k4 x1 x2 = some o → WP g A (wM g q m_thrown m_length m_at m_fault m_toldWords m_orders m_value m_hasUnit m_places m_clocks m_held m_x m_y m_z m_first m_second m_aside m_jobs m_jobsImage m_clocksImage m_heldImage m_hasImage m_tape m_read m_order m_width m_guard m_points m_stages m_gain m_undo m_near m_quarter m_ln m_angle m_shift m_digit m_refused m_job m_jobKept m_result m_resultKept m_trace m_traceKept m_jobImage m_resultImage m_traceImage) H → va_S A s.heap H locs → lv_has ls 4 [(0, .ref (q 0)), (1, .int x1), (2, .int x2)] → W p l e rm_X11_isWanted s m args below meth c H locs 0 0 Q (F0 m 67 ls []) := by
    intro k4 hk4 x1 x2 H locs ls h hP hS hl
    unfold f_X11_isWanted_b67 at h
    obtain ⟨v3, ev3⟩ : ∃ z : Int32, z = (x2 + 1) := ⟨_, rfl⟩
    have h := lt_at ev3 h
    refine lv_iinc (v := v3) (lv' := [(2, .int v3), (0, .ref (q 0)), (1, .int x1)]) hx hb dX11_isWanted_67 hl (k := 2) rfl (by rw [ev3]; rfl) (by decide) rfl (fun ls hl => ?_)
    refine lv_goto (tgt := 4) hx hb dX11_isWanted_70 rfl ?_
    exact hk4 x1 v3 _ _ _ h hP hS (lv_sub hl [1, 2, 0] rfl)
  have b61 : ∀ (k4 : Int32 → Int32 → Option (Bool)) (hk4 : ∀ (x1 : Int32) (x2 : Int32) (H : Heap) (locs : List Loc) (ls : Array Slot), k4 x1 x2 = some o → WP g A (wM g q m_thrown m_length m_at m_fault m_toldWords m_orders m_value m_hasUnit m_places m_clocks m_held m_x m_y m_z m_first m_second m_aside m_jobs m_jobsImage m_clocksImage m_heldImage m_hasImage m_tape m_read m_order m_width m_guard m_points m_stages m_gain m_undo m_near m_quarter m_ln m_angle m_shift m_digit m_refused m_job m_jobKept m_result m_resultKept m_trace m_traceKept m_jobImage m_resultImage m_traceImage) H → va_S A s.heap H locs → lv_has ls 4 [(0, .ref (q 0)), (1, .int x1), (2, .int x2)] → W p l e rm_X11_isWanted s m args below meth c H locs 0 0 Q (F0 m 4 ls [])) (k26 : Int32 → Int32 → Int32 → Option (Bool)) (hk26 : ∀ (x1 : Int32) (x2 : Int32) (x3 : Int32) (H : Heap) (locs : List Loc) (ls : Array Slot), k26 x1 x2 x3 = some o → WP g A (wM g q m_thrown m_length m_at m_fault m_toldWords m_orders m_value m_hasUnit m_places m_clocks m_held m_x m_y m_z m_first m_second m_aside m_jobs m_jobsImage m_clocksImage m_heldImage m_hasImage m_tape m_read m_order m_width m_guard m_points m_stages m_gain m_undo m_near m_quarter m_ln m_angle m_shift m_digit m_refused m_job m_jobKept m_result m_resultKept m_trace m_traceKept m_jobImage m_resultImage m_traceImage) H → va_S A s.heap H locs → lv_has ls 4 [(0, .ref (q 0)), (1, .int x1), (2, .int x2), (3, .int x3)] → W p l e rm_X11_isWanted s m args below meth c H locs 0 0 Q (F0 m 26 ls [])) , ∀ (x1 : Int32) (x2 : Int32) (x3 : Int32) (H : Heap) (locs : List Loc) (ls : Array Slot), f_X11_isWanted_b61  m_jobs m_job k4 k26 x1 x2 x3 = some o → WP g A (wM g q m_thrown m_length m_at m_fault m_toldWords m_orders m_value m_hasUnit m_places m_clocks m_held m_x m_y m_z m_first m_second m_aside m_jobs m_jobsImage m_clocksImage m_heldImage m_hasImage m_tape m_read m_order m_width m_guard m_points m_stages m_gain m_undo m_near m_quarter m_ln m_angle m_shift m_digit m_refused m_job m_jobKept m_result m_resultKept m_trace m_traceKept m_jobImage m_resultImage m_traceImage) H → va_S A s.heap H locs → lv_has ls 4 [(0, .ref (q 0)), (1, .int x1), (2, .int x2), (3, .int x3)] → W p l e rm_X11_isWanted s m args below meth c H locs 0 0 Q (F0 m 61 ls []) := by
    intro k4 hk4 k26 hk26 x1 x2 x3 H locs ls h hP hS hl
    unfold f_X11_isWanted_b61 at h
    obtain ⟨v5, ev5⟩ : ∃ z : Int32, z = (x3 + 1) := ⟨_, rfl⟩
    have h := lt_at ev5 h
    refine lv_iinc (v := v5) (lv' := [(3, .int v5), (0, .ref (q 0)), (1, .int x1), (2, .int x2)]) hx hb dX11_isWanted_61 hl (k := 3) rfl (by rw [ev5]; rfl) (by decide) rfl (fun ls hl => ?_)
    refine lv_goto (tgt := 26) hx hb dX11_isWanted_64 rfl ?_
    exact hk26 x1 x2 v5 _ _ _ h hP hS (lv_sub hl [1, 2, 3, 0] rfl)
  have l26 : ∀ (k4 : Int32 → Int32 → Option (Bool)) (hk4 : ∀ (x1 : Int32) (x2 : Int32) (H : Heap) (locs : List Loc) (ls : Array Slot), k4 x1 x2 = some o → WP g A (wM g q m_thrown m_length m_at m_fault m_toldWords m_orders m_value m_hasUnit m_places m_clocks m_held m_x m_y m_z m_first m_second m_aside m_jobs m_jobsImage m_clocksImage m_heldImage m_hasImage m_tape m_read m_order m_width m_guard m_points m_stages m_gain m_undo m_near m_quarter m_ln m_angle m_shift m_digit m_refused m_job m_jobKept m_result m_resultKept m_trace m_traceKept m_jobImage m_resultImage m_traceImage) H → va_S A s.heap H locs → lv_has ls 4 [(0, .ref (q 0)), (1, .int x1), (2, .int x2)] → W p l e rm_X11_isWanted s m args below meth c H locs 0 0 Q (F0 m 4 ls [])) (n : Nat), ∀ (x1 : Int32) (x2 : Int32) (x3 : Int32) (H : Heap) (locs : List Loc) (ls : Array Slot), f_X11_isWanted_l26  m_jobs m_job k4 n x1 x2 x3 = some o → WP g A (wM g q m_thrown m_length m_at m_fault m_toldWords m_orders m_value m_hasUnit m_places m_clocks m_held m_x m_y m_z m_first m_second m_aside m_jobs m_jobsImage m_clocksImage m_heldImage m_hasImage m_tape m_read m_order m_width m_guard m_points m_stages m_gain m_undo m_near m_quarter m_ln m_angle m_shift m_digit m_refused m_job m_jobKept m_result m_resultKept m_trace m_traceKept m_jobImage m_resultImage m_traceImage) H → va_S A s.heap H locs → lv_has ls 4 [(0, .ref (q 0)), (1, .int x1), (2, .int x2), (3, .int x3)] → W p l e rm_X11_isWanted s m args below meth c H locs 0 0 Q (F0 m 26 ls []) := by
    intro k4 hk4 n
    induction n with
    | zero =>
      intro x1 x2 x3 H locs ls h
      exact nz_of h
    | succ n ih =>
      intro x1 x2 x3 H locs ls h hP hS hl
      rw [f_X11_isWanted_l26] at h
      refine lv_iload_n hx hb dX11_isWanted_26 rfl (lv_at hl 3 rfl) ?_
      refine lv_iconst (v := 3) hx hb dX11_isWanted_27 rfl ?_
      refine lv_icmp_ge (tgt := 67) hx hb dX11_isWanted_28 rfl (fun c28 => ?_) (fun c28 => ?_)
      · have h := br_p c28 h
        exact b67 k4 hk4  x1 x2 _ _ _ h hP hS (lv_sub hl [0, 1, 2] rfl)
      · have h := br_n c28 h
        refine lv_aload_n hx hb dX11_isWanted_31 rfl (lv_at hl 0 rfl) ?_
        refine lv_iload_n hx hb dX11_isWanted_32 rfl (lv_at hl 2 rfl) ?_
        refine lv_bipush (v := 10) hx hb dX11_isWanted_33 rfl ?_
        refine lv_iload_n hx hb dX11_isWanted_35 rfl (lv_at hl 3 rfl) ?_
        refine lv_iadd hx hb dX11_isWanted_36 ?_
        obtain ⟨o4, hco4, h⟩ := bd_of h
        refine kV (rest := []) X dX11_isWanted_37 wd_7_78 mw_X11_of wd_7_80 wp_9_3 hP (k0 := 0) rfl rfl rfl hS (fun _ z => z) (c_X11_of hco4) rfl hl.1 rfl (Nat.le_of_ble_eq_true rfl) rfl rfl ⟨Nat.le_of_ble_eq_true rfl, Nat.le_of_ble_eq_true rfl⟩ (fun H locs hP _ _ hS => ?_)
        refine W.eq (g2 := F0 m 40 ls [.int o4]) rfl ?_
        refine lv_iconst (v := (-1)) hx hb dX11_isWanted_40 rfl ?_
        refine lv_icmp_eq (tgt := 61) hx hb dX11_isWanted_41 rfl (fun c41 => ?_) (fun c41 => ?_)
        · have h := br_p c41 h
          exact b61 k4 hk4 (f_X11_isWanted_l26  m_jobs m_job k4 n) ih  x1 x2 x3 _ _ _ h hP hS (lv_sub hl [0, 1, 2, 3] rfl)
        · have h := br_n c41 h
          refine lv_aload_n hx hb dX11_isWanted_44 rfl (lv_at hl 0 rfl) ?_
          refine lv_iload_n hx hb dX11_isWanted_45 rfl (lv_at hl 2 rfl) ?_
          refine lv_bipush (v := 10) hx hb dX11_isWanted_46 rfl ?_
          refine lv_iload_n hx hb dX11_isWanted_48 rfl (lv_at hl 3 rfl) ?_
          refine lv_iadd hx hb dX11_isWanted_49 ?_
          obtain ⟨o6, hco6, h⟩ := bd_of h
          refine kV (rest := []) X dX11_isWanted_50 wd_7_78 mw_X11_of wd_7_80 wp_9_3 hP (k0 := 0) rfl rfl rfl hS (fun _ z => z) (c_X11_of hco6) rfl hl.1 rfl (Nat.le_of_ble_eq_true rfl) rfl rfl ⟨Nat.le_of_ble_eq_true rfl, Nat.le_of_ble_eq_true rfl⟩ (fun H locs hP _ _ hS => ?_)
          refine W.eq (g2 := F0 m 53 ls [.int o6]) rfl ?_
          refine lv_iconst (v := 2) hx hb dX11_isWanted_53 rfl ?_
          obtain ⟨cz54, h⟩ := gz_of h
          refine lv_idiv hx hb dX11_isWanted_54 cz54 ?_
          refine lv_iload_n hx hb dX11_isWanted_55 rfl (lv_at hl 1 rfl) ?_
          refine lv_icmp_ne (tgt := 61) hx hb dX11_isWanted_56 rfl (fun c56 => ?_) (fun c56 => ?_)
          · have h := br_n c56 h
            exact b61 k4 hk4 (f_X11_isWanted_l26  m_jobs m_job k4 n) ih  x1 x2 x3 _ _ _ h hP hS (lv_sub hl [0, 1, 2, 3] rfl)
          · have h := br_p c56 h
            refine lv_iconst (v := 1) hx hb dX11_isWanted_59 rfl ?_
            exact ret h hP hS dX11_isWanted_60
  have l4 : ∀ (n : Nat), ∀ (x1 : Int32) (x2 : Int32) (H : Heap) (locs : List Loc) (ls : Array Slot), f_X11_isWanted_l4  m_jobs m_job  n x1 x2 = some o → WP g A (wM g q m_thrown m_length m_at m_fault m_toldWords m_orders m_value m_hasUnit m_places m_clocks m_held m_x m_y m_z m_first m_second m_aside m_jobs m_jobsImage m_clocksImage m_heldImage m_hasImage m_tape m_read m_order m_width m_guard m_points m_stages m_gain m_undo m_near m_quarter m_ln m_angle m_shift m_digit m_refused m_job m_jobKept m_result m_resultKept m_trace m_traceKept m_jobImage m_resultImage m_traceImage) H → va_S A s.heap H locs → lv_has ls 4 [(0, .ref (q 0)), (1, .int x1), (2, .int x2)] → W p l e rm_X11_isWanted s m args below meth c H locs 0 0 Q (F0 m 4 ls []) := by
    intro  n
    induction n with
    | zero =>
      intro x1 x2 H locs ls h
      exact nz_of h
    | succ n ih =>
      intro x1 x2 H locs ls h hP hS hl
      rw [f_X11_isWanted_l4] at h
      refine lv_iload_n hx hb dX11_isWanted_4 rfl (lv_at hl 2 rfl) ?_
      refine lv_aload_n hx hb dX11_isWanted_5 rfl (lv_at hl 0 rfl) ?_
      refine gf_X11_273_M_0 X hP dX11_isWanted_6 ?_
      refine lv_icmp_ge (tgt := 73) hx hb dX11_isWanted_9 rfl (fun c9 => ?_) (fun c9 => ?_)
      · have h := br_p c9 h
        refine lv_iconst (v := 0) hx hb dX11_isWanted_73 rfl ?_
        exact ret h hP hS dX11_isWanted_74
      · have h := br_n c9 h
        refine lv_aload_n hx hb dX11_isWanted_12 rfl (lv_at hl 0 rfl) ?_
        refine lv_iload_n hx hb dX11_isWanted_13 rfl (lv_at hl 2 rfl) ?_
        refine lv_iconst (v := 4) hx hb dX11_isWanted_14 rfl ?_
        obtain ⟨o2, hco2, h⟩ := bd_of h
        refine kV (rest := []) X dX11_isWanted_15 wd_7_78 mw_X11_of wd_7_80 wp_9_3 hP (k0 := 0) rfl rfl rfl hS (fun _ z => z) (c_X11_of hco2) rfl hl.1 rfl (Nat.le_of_ble_eq_true rfl) rfl rfl ⟨Nat.le_of_ble_eq_true rfl, Nat.le_of_ble_eq_true rfl⟩ (fun H locs hP _ _ hS => ?_)
        refine W.eq (g2 := F0 m 18 ls [.int o2]) rfl ?_
        refine lv_if_eq (tgt := 24) hx hb dX11_isWanted_18 rfl (fun c18 => ?_) (fun c18 => ?_)
        · have h := br_p c18 h
          refine lv_iconst (v := 0) hx hb dX11_isWanted_24 rfl ?_
          refine lv_istore_n (lv' := [(3, .int 0), (0, .ref (q 0)), (1, .int x1), (2, .int x2)]) hx hb dX11_isWanted_25 rfl hl (by decide) rfl (fun ls hl => ?_)
          exact l26 (f_X11_isWanted_l4  m_jobs m_job  n) ih FU x1 x2 (0 : Int32) _ _ _ h hP hS (lv_sub hl [1, 2, 3, 0] rfl)
        · have h := br_n c18 h
          refine lv_goto (tgt := 67) hx hb dX11_isWanted_21 rfl ?_
          exact b67 (f_X11_isWanted_l4  m_jobs m_job  n) ih  x1 x2 _ _ _ h hP hS (lv_sub hl [0, 1, 2] rfl)
  unfold f_X11_isWanted at h
  refine lv_iload_n hx hb dX11_isWanted_0 rfl (lv_at hl 1 rfl) ?_
  refine lv_iconst (v := 1) hx hb dX11_isWanted_1 rfl ?_
  refine lv_iadd hx hb dX11_isWanted_2 ?_
  refine lv_topi (fun v1 ev1 => ?_)
  have h := lt_at ev1 h
  refine lv_istore_n (lv' := [(2, .int v1), (0, .ref (q 0)), (1, .int p0)]) hx hb dX11_isWanted_3 rfl hl (by decide) rfl (fun ls hl => ?_)
  exact l4  FU p0 v1 _ _ _ h hP hS (lv_sub hl [1, 2, 0] rfl)
abbrev rm_X11_drop : Room := { frames := 2, cells := 0, slots := 0, locals := 46 }
set_option maxRecDepth 100000 in
set_option maxHeartbeats 4000000 in
theorem c_X11_drop {g : gT} {l : Launch} {A : Nat → Prop} {q : Nat → Nat} {m_thrown : Int32} {m_length : Int32} {m_at : Int32} {m_fault : Int32} {m_toldWords : Int32} {m_orders : Int32} {m_value : Int32} {m_hasUnit : Bool} {m_places : Int32} {m_clocks : Int32} {m_held : Bool} {m_x : Int64} {m_y : Int64} {m_z : Int64} {m_first : Int64} {m_second : Int64} {m_aside : Int32} {m_jobs : Int32} {m_jobsImage : Int32} {m_clocksImage : Int32} {m_heldImage : Bool} {m_hasImage : Bool} {m_tape : Nat → Int32} {m_read : Nat → Int32} {m_order : Nat → Int32} {m_width : Nat → Int32} {m_guard : Nat → Int32} {m_points : Nat → Int32} {m_stages : Nat → Int32} {m_gain : Nat → Int32} {m_undo : Nat → Int32} {m_near : Nat → Bool} {m_quarter : Nat → Int64} {m_ln : Nat → Int64} {m_angle : Nat → Int64} {m_shift : Nat → Int32} {m_digit : Nat → Int32} {m_refused : Nat → Int32} {m_job : Nat → Int32} {m_jobKept : Nat → Int32} {m_result : Nat → Int32} {m_resultKept : Nat → Int32} {m_trace : Nat → Int64} {m_traceKept : Nat → Int64} {m_jobImage : Nat → Int32} {m_resultImage : Nat → Int32} {m_traceImage : Nat → Int64} {p0 : Int32} {o : Bool × Int32 × (Nat → Int32) × (Nat → Int32)} (h : f_X11_drop p0 m_thrown m_hasUnit m_jobs m_refused m_job = some o) : Std g l yX11_drop (.code yX11_drop cX11_drop 4 (some .boolean) :: gw) rm_X11_drop A [.ref (q 0), .int p0] (wM g q m_thrown m_length m_at m_fault m_toldWords m_orders m_value m_hasUnit m_places m_clocks m_held m_x m_y m_z m_first m_second m_aside m_jobs m_jobsImage m_clocksImage m_heldImage m_hasImage m_tape m_read m_order m_width m_guard m_points m_stages m_gain m_undo m_near m_quarter m_ln m_angle m_shift m_digit m_refused m_job m_jobKept m_result m_resultKept m_trace m_traceKept m_jobImage m_resultImage m_traceImage) (wM g q o.2.1 m_length m_at m_fault m_toldWords m_orders m_value m_hasUnit m_places m_clocks m_held m_x m_y m_z m_first m_second m_aside m_jobs m_jobsImage m_clocksImage m_heldImage m_hasImage m_tape m_read m_order m_width m_guard m_points m_stages m_gain m_undo m_near m_quarter m_ln m_angle m_shift m_digit o.2.2.1 o.2.2.2 m_jobKept m_result m_resultKept m_trace m_traceKept m_jobImage m_resultImage m_traceImage) (some (.int (bI o.1))) := by
  refine std_z (own := RX11) (by decide +kernel) rfl (Nat.le_of_ble_eq_true rfl) ?_
  intro p e s m args below meth c Q X ret H locs hP hS ls hl
  have hx := X.1
  have hb := X.2.1
  have hl : lv_has ls 4 [(0, .ref (q 0)), (1, .int p0)] := hl
  have ret : ∀ {H : Heap} {locs : List Loc} {pc : Nat} {ls : Array Slot} {v : Bool} {m_thrown : Int32} {m_refused : Nat → Int32} {m_job : Nat → Int32}, some (v, m_thrown, m_refused, m_job) = some o → WP g A (wM g q m_thrown m_length m_at m_fault m_toldWords m_orders m_value m_hasUnit m_places m_clocks m_held m_x m_y m_z m_first m_second m_aside m_jobs m_jobsImage m_clocksImage m_heldImage m_hasImage m_tape m_read m_order m_width m_guard m_points m_stages m_gain m_undo m_near m_quarter m_ln m_angle m_shift m_digit m_refused m_job m_jobKept m_result m_resultKept m_trace m_traceKept m_jobImage m_resultImage m_traceImage) H → va_S A s.heap H locs → decode cX11_drop pc = .ok (.ireturn, 1) → W p l e rm_X11_drop s m args below meth c H locs 0 0 Q (F0 m pc ls [.int (bI v)]) := by
    intro H locs pc ls v m_thrown m_refused m_job h hP hS hd
    cases h
    exact ret hP hS hd
  have b35 : ∀ (x1 : Int32) (t0 : Bool) (m_thrown : Int32) (m_refused : Nat → Int32) (m_job : Nat → Int32) (H : Heap) (locs : List Loc) (ls : Array Slot), f_X11_drop_b35  m_hasUnit m_jobs  x1 t0 m_thrown m_refused m_job = some o → WP g A (wM g q m_thrown m_length m_at m_fault m_toldWords m_orders m_value m_hasUnit m_places m_clocks m_held m_x m_y m_z m_first m_second m_aside m_jobs m_jobsImage m_clocksImage m_heldImage m_hasImage m_tape m_read m_order m_width m_guard m_points m_stages m_gain m_undo m_near m_quarter m_ln m_angle m_shift m_digit m_refused m_job m_jobKept m_result m_resultKept m_trace m_traceKept m_jobImage m_resultImage m_traceImage) H → va_S A s.heap H locs → lv_has ls 4 [(0, .ref (q 0)), (1, .int x1)] → W p l e rm_X11_drop s m args below meth c H locs 0 0 Q (F0 m 35 ls [.int (bI t0)]) := by
    intro  x1 t0 m_thrown m_refused m_job H locs ls h hP hS hl
    unfold f_X11_drop_b35 at h
    refine lv_istore_n (lv' := [(2, .int (bI t0)), (0, .ref (q 0)), (1, .int x1)]) hx hb dX11_drop_35 rfl hl (by decide) rfl (fun ls hl => ?_)
    refine lv_iload_n hx hb dX11_drop_36 rfl (lv_at hl 0 rfl) ?_
    refine rb_ne (tgt := 60) hx hb dX11_drop_37 rfl (fun c37 => ?_) (fun c37 => ?_)
    · have h := br_p c37 h
      refine lv_aload_n hx hb dX11_drop_60 rfl (lv_at hl 1 rfl) ?_
      refine gf_X11_226_M_0 X hP dX11_drop_61 ?_
      refine lv_bipush (v := 14) hx hb dX11_drop_64 rfl ?_
      refine lv_iload_n hx hb dX11_drop_66 rfl (lv_at hl 2 rfl) ?_
      refine lv_imul hx hb dX11_drop_67 ?_
      refine lv_iconst (v := 4) hx hb dX11_drop_68 rfl ?_
      refine lv_iadd hx hb dX11_drop_69 ?_
      refine lv_iconst (v := 3) hx hb dX11_drop_70 rfl ?_
      obtain ⟨hi71, h⟩ := gv_of h
      refine as_M_17 (v0 := (3 : Int32)) X hP hS hi71 dX11_drop_71 (fun H locs hP hS => ?_)
      refine lv_iconst (v := 1) hx hb dX11_drop_72 rfl ?_
      exact ret h hP hS dX11_drop_73
    · have h := br_n c37 h
      refine lv_aload_n hx hb dX11_drop_40 rfl (lv_at hl 1 rfl) ?_
      refine lv_aload_n hx hb dX11_drop_41 rfl (lv_at hl 1 rfl) ?_
      refine lv_iload_n hx hb dX11_drop_42 rfl (lv_at hl 2 rfl) ?_
      obtain ⟨o2, hco2, h⟩ := bd_of h
      refine kV (rest := [.ref (q 0)]) X dX11_drop_43 wd_7_74 mw_X11_isJob wd_7_76 wp_9_2 hP (k0 := 0) rfl rfl rfl hS (fun _ z => z) (c_X11_isJob hco2) rfl hl.1 rfl (Nat.le_of_ble_eq_true rfl) rfl rfl ⟨Nat.le_of_ble_eq_true rfl, Nat.le_of_ble_eq_true rfl⟩ (fun H locs hP _ _ hS => ?_)
      refine W.eq (g2 := F0 m 46 ls [.int (bI o2), .ref (q 0)]) rfl ?_
      refine jx1 h (P := fun (v3 : Int32) => ∀ ls : Array Slot, lv_has ls 4 [] → W p l e rm_X11_drop s m args below meth c H locs 0 0 Q (F0 m 54 ls [.int v3, .ref (q 0)])) ?_ ?_
      · intro v3 h ls hl
        obtain ⟨o4, hco4, h⟩ := bd_of h
        refine kV (rest := []) X dX11_drop_54 wd_7_50 mw_X11_refuse wd_7_52 wp_8_14 hP (k0 := 0) rfl rfl rfl hS (fun _ z => z) (c_X11_refuse hco4) rfl hl.1 rfl (Nat.le_of_ble_eq_true rfl) rfl rfl ⟨Nat.le_of_ble_eq_true rfl, Nat.le_of_ble_eq_true rfl⟩ (fun H locs hP _ _ hS => ?_)
        refine W.eq (g2 := F0 m 57 ls [.int o4.1]) rfl ?_
        refine lv_istore_n (lv' := [(3, .int o4.1)]) hx hb dX11_drop_57 rfl hl (by decide) rfl (fun ls hl => ?_)
        refine lv_iconst (v := 0) hx hb dX11_drop_58 rfl ?_
        exact ret h hP hS dX11_drop_59
      · intro J h
        refine rb_eq (tgt := 53) hx hb dX11_drop_46 rfl (fun c46 => ?_) (fun c46 => ?_)
        · refine lv_iconst (v := 0) hx hb dX11_drop_53 rfl ?_
          exact J _ (lt_in c46 h) ls (lv_sub hl [] rfl)
        · refine lv_iconst (v := 3) hx hb dX11_drop_49 rfl ?_
          refine lv_goto (tgt := 54) hx hb dX11_drop_50 rfl ?_
          exact J _ (lt_ip c46 h) ls (lv_sub hl [] rfl)
  have b34 : ∀ (x1 : Int32) (m_thrown : Int32) (m_refused : Nat → Int32) (m_job : Nat → Int32) (H : Heap) (locs : List Loc) (ls : Array Slot), f_X11_drop_b34  m_hasUnit m_jobs  x1 m_thrown m_refused m_job = some o → WP g A (wM g q m_thrown m_length m_at m_fault m_toldWords m_orders m_value m_hasUnit m_places m_clocks m_held m_x m_y m_z m_first m_second m_aside m_jobs m_jobsImage m_clocksImage m_heldImage m_hasImage m_tape m_read m_order m_width m_guard m_points m_stages m_gain m_undo m_near m_quarter m_ln m_angle m_shift m_digit m_refused m_job m_jobKept m_result m_resultKept m_trace m_traceKept m_jobImage m_resultImage m_traceImage) H → va_S A s.heap H locs → lv_has ls 4 [(0, .ref (q 0)), (1, .int x1)] → W p l e rm_X11_drop s m args below meth c H locs 0 0 Q (F0 m 34 ls []) := by
    intro  x1 m_thrown m_refused m_job H locs ls h hP hS hl
    unfold f_X11_drop_b34 at h
    refine lv_iconst (v := 0) hx hb dX11_drop_34 rfl ?_
    exact b35   x1 false m_thrown m_refused m_job _ _ _ h hP hS (lv_sub hl [0, 1] rfl)
  unfold f_X11_drop at h
  refine lv_aload_n hx hb dX11_drop_0 rfl (lv_at hl 0 rfl) ?_
  refine lv_iconst (v := 0) hx hb dX11_drop_1 rfl ?_
  refine pf_X11_5_M_0 (v0 := (0 : Int32)) X hP hS dX11_drop_2 (fun H locs hP hS => ?_)
  refine lv_aload_n hx hb dX11_drop_5 rfl (lv_at hl 0 rfl) ?_
  refine lv_iload_n hx hb dX11_drop_6 rfl (lv_at hl 1 rfl) ?_
  obtain ⟨o1, hco1, h⟩ := bd_of h
  refine kV (rest := []) X dX11_drop_7 wd_7_74 mw_X11_isJob wd_7_76 wp_9_2 hP (k0 := 0) rfl rfl rfl hS (fun _ z => z) (c_X11_isJob hco1) rfl hl.1 rfl (Nat.le_of_ble_eq_true rfl) rfl rfl ⟨Nat.le_of_ble_eq_true rfl, Nat.le_of_ble_eq_true rfl⟩ (fun H locs hP _ _ hS => ?_)
  refine W.eq (g2 := F0 m 10 ls [.int (bI o1)]) rfl ?_
  refine rb_eq (tgt := 34) hx hb dX11_drop_10 rfl (fun c10 => ?_) (fun c10 => ?_)
  · have h := br_n c10 h
    exact b34   p0 (0 : Int32) m_refused m_job _ _ _ h hP hS (lv_sub hl [0, 1] rfl)
  · have h := br_p c10 h
    refine lv_aload_n hx hb dX11_drop_13 rfl (lv_at hl 0 rfl) ?_
    refine lv_iload_n hx hb dX11_drop_14 rfl (lv_at hl 1 rfl) ?_
    refine lv_iconst (v := 4) hx hb dX11_drop_15 rfl ?_
    obtain ⟨o5, hco5, h⟩ := bd_of h
    refine kV (rest := []) X dX11_drop_16 wd_7_78 mw_X11_of wd_7_80 wp_9_3 hP (k0 := 0) rfl rfl rfl hS (fun _ z => z) (c_X11_of hco5) rfl hl.1 rfl (Nat.le_of_ble_eq_true rfl) rfl rfl ⟨Nat.le_of_ble_eq_true rfl, Nat.le_of_ble_eq_true rfl⟩ (fun H locs hP _ _ hS => ?_)
    refine W.eq (g2 := F0 m 19 ls [.int o5]) rfl ?_
    refine lv_if_ne (tgt := 34) hx hb dX11_drop_19 rfl (fun c19 => ?_) (fun c19 => ?_)
    · have h := br_n c19 h
      exact b34   p0 (0 : Int32) m_refused m_job _ _ _ h hP hS (lv_sub hl [0, 1] rfl)
    · have h := br_p c19 h
      refine lv_aload_n hx hb dX11_drop_22 rfl (lv_at hl 0 rfl) ?_
      refine lv_iload_n hx hb dX11_drop_23 rfl (lv_at hl 1 rfl) ?_
      obtain ⟨o6, hco6, h⟩ := bd_of h
      refine kV (rest := []) X dX11_drop_24 wd_7_82 mw_X11_isWanted wd_7_84 wp_9_4 hP (k0 := 0) rfl rfl rfl hS (fun _ z => z) (c_X11_isWanted hco6) rfl hl.1 rfl (Nat.le_of_ble_eq_true rfl) rfl rfl ⟨Nat.le_of_ble_eq_true rfl, Nat.le_of_ble_eq_true rfl⟩ (fun H locs hP _ _ hS => ?_)
      refine W.eq (g2 := F0 m 27 ls [.int (bI o6)]) rfl ?_
      refine jx1 h (P := fun (v7 : Bool) => ∀ ls : Array Slot, lv_has ls 4 [(0, .ref (q 0)), (1, .int p0)] → W p l e rm_X11_drop s m args below meth c H locs 0 0 Q (F0 m 35 ls [.int (bI v7)])) ?_ ?_
      · intro v7 h ls hl
        refine lv_istore_n (lv' := [(2, .int (bI v7)), (0, .ref (q 0)), (1, .int p0)]) hx hb dX11_drop_35 rfl hl (by decide) rfl (fun ls hl => ?_)
        refine lv_iload_n hx hb dX11_drop_36 rfl (lv_at hl 0 rfl) ?_
        refine rb_ne (tgt := 60) hx hb dX11_drop_37 rfl (fun c37 => ?_) (fun c37 => ?_)
        · have h := br_p c37 h
          refine lv_aload_n hx hb dX11_drop_60 rfl (lv_at hl 1 rfl) ?_
          refine gf_X11_226_M_0 X hP dX11_drop_61 ?_
          refine lv_bipush (v := 14) hx hb dX11_drop_64 rfl ?_
          refine lv_iload_n hx hb dX11_drop_66 rfl (lv_at hl 2 rfl) ?_
          refine lv_imul hx hb dX11_drop_67 ?_
          refine lv_iconst (v := 4) hx hb dX11_drop_68 rfl ?_
          refine lv_iadd hx hb dX11_drop_69 ?_
          refine lv_iconst (v := 3) hx hb dX11_drop_70 rfl ?_
          obtain ⟨hi71, h⟩ := gv_of h
          refine as_M_17 (v0 := (3 : Int32)) X hP hS hi71 dX11_drop_71 (fun H locs hP hS => ?_)
          refine lv_iconst (v := 1) hx hb dX11_drop_72 rfl ?_
          exact ret h hP hS dX11_drop_73
        · have h := br_n c37 h
          refine lv_aload_n hx hb dX11_drop_40 rfl (lv_at hl 1 rfl) ?_
          refine lv_aload_n hx hb dX11_drop_41 rfl (lv_at hl 1 rfl) ?_
          refine lv_iload_n hx hb dX11_drop_42 rfl (lv_at hl 2 rfl) ?_
          obtain ⟨o8, hco8, h⟩ := bd_of h
          refine kV (rest := [.ref (q 0)]) X dX11_drop_43 wd_7_74 mw_X11_isJob wd_7_76 wp_9_2 hP (k0 := 0) rfl rfl rfl hS (fun _ z => z) (c_X11_isJob hco8) rfl hl.1 rfl (Nat.le_of_ble_eq_true rfl) rfl rfl ⟨Nat.le_of_ble_eq_true rfl, Nat.le_of_ble_eq_true rfl⟩ (fun H locs hP _ _ hS => ?_)
          refine W.eq (g2 := F0 m 46 ls [.int (bI o8), .ref (q 0)]) rfl ?_
          refine jx1 h (P := fun (v9 : Int32) => ∀ ls : Array Slot, lv_has ls 4 [] → W p l e rm_X11_drop s m args below meth c H locs 0 0 Q (F0 m 54 ls [.int v9, .ref (q 0)])) ?_ ?_
          · intro v9 h ls hl
            obtain ⟨o10, hco10, h⟩ := bd_of h
            refine kV (rest := []) X dX11_drop_54 wd_7_50 mw_X11_refuse wd_7_52 wp_8_14 hP (k0 := 0) rfl rfl rfl hS (fun _ z => z) (c_X11_refuse hco10) rfl hl.1 rfl (Nat.le_of_ble_eq_true rfl) rfl rfl ⟨Nat.le_of_ble_eq_true rfl, Nat.le_of_ble_eq_true rfl⟩ (fun H locs hP _ _ hS => ?_)
            refine W.eq (g2 := F0 m 57 ls [.int o10.1]) rfl ?_
            refine lv_istore_n (lv' := [(3, .int o10.1)]) hx hb dX11_drop_57 rfl hl (by decide) rfl (fun ls hl => ?_)
            refine lv_iconst (v := 0) hx hb dX11_drop_58 rfl ?_
            exact ret h hP hS dX11_drop_59
          · intro J h
            refine rb_eq (tgt := 53) hx hb dX11_drop_46 rfl (fun c46 => ?_) (fun c46 => ?_)
            · refine lv_iconst (v := 0) hx hb dX11_drop_53 rfl ?_
              exact J _ (lt_in c46 h) ls (lv_sub hl [] rfl)
            · refine lv_iconst (v := 3) hx hb dX11_drop_49 rfl ?_
              refine lv_goto (tgt := 54) hx hb dX11_drop_50 rfl ?_
              exact J _ (lt_ip c46 h) ls (lv_sub hl [] rfl)
      · intro J h
        refine rb_ne (tgt := 34) hx hb dX11_drop_27 rfl (fun c27 => ?_) (fun c27 => ?_)
        · refine lv_iconst (v := 0) hx hb dX11_drop_34 rfl ?_
          exact J _ (lt_ip c27 h) ls (lv_sub hl [0, 1] rfl)
        · refine lv_iconst (v := 1) hx hb dX11_drop_30 rfl ?_
          refine lv_goto (tgt := 35) hx hb dX11_drop_31 rfl ?_
          exact J _ (lt_in c27 h) ls (lv_sub hl [0, 1] rfl)
