abbrev rm_X11_digits : Room := { frames := 1, cells := 0, slots := 0, locals := 20 }
set_option maxRecDepth 100000 in
set_option maxHeartbeats 4000000 in
theorem c_X11_digits {g : gT} {l : Launch} {A : Nat → Prop} {q : Nat → Nat} {m_thrown : Int32} {m_length : Int32} {m_at : Int32} {m_fault : Int32} {m_toldWords : Int32} {m_orders : Int32} {m_value : Int32} {m_hasUnit : Bool} {m_places : Int32} {m_clocks : Int32} {m_held : Bool} {m_x : Int64} {m_y : Int64} {m_z : Int64} {m_first : Int64} {m_second : Int64} {m_aside : Int32} {m_jobs : Int32} {m_jobsImage : Int32} {m_clocksImage : Int32} {m_heldImage : Bool} {m_hasImage : Bool} {m_tape : Nat → Int32} {m_read : Nat → Int32} {m_order : Nat → Int32} {m_width : Nat → Int32} {m_guard : Nat → Int32} {m_points : Nat → Int32} {m_stages : Nat → Int32} {m_gain : Nat → Int32} {m_undo : Nat → Int32} {m_near : Nat → Bool} {m_quarter : Nat → Int64} {m_ln : Nat → Int64} {m_angle : Nat → Int64} {m_shift : Nat → Int32} {m_digit : Nat → Int32} {m_refused : Nat → Int32} {m_job : Nat → Int32} {m_jobKept : Nat → Int32} {m_result : Nat → Int32} {m_resultKept : Nat → Int32} {m_trace : Nat → Int64} {m_traceKept : Nat → Int64} {m_jobImage : Nat → Int32} {m_resultImage : Nat → Int32} {m_traceImage : Nat → Int64}  {o : Int32 × Int32 × Int32} (h : f_X11_digits  m_length m_at m_value m_tape = some o) : Std g l yX11_digits (.code yX11_digits cX11_digits 2 (some .int) :: gw) rm_X11_digits A [.ref (q 0)] (wM g q m_thrown m_length m_at m_fault m_toldWords m_orders m_value m_hasUnit m_places m_clocks m_held m_x m_y m_z m_first m_second m_aside m_jobs m_jobsImage m_clocksImage m_heldImage m_hasImage m_tape m_read m_order m_width m_guard m_points m_stages m_gain m_undo m_near m_quarter m_ln m_angle m_shift m_digit m_refused m_job m_jobKept m_result m_resultKept m_trace m_traceKept m_jobImage m_resultImage m_traceImage) (wM g q m_thrown m_length o.2.1 m_fault m_toldWords m_orders o.2.2 m_hasUnit m_places m_clocks m_held m_x m_y m_z m_first m_second m_aside m_jobs m_jobsImage m_clocksImage m_heldImage m_hasImage m_tape m_read m_order m_width m_guard m_points m_stages m_gain m_undo m_near m_quarter m_ln m_angle m_shift m_digit m_refused m_job m_jobKept m_result m_resultKept m_trace m_traceKept m_jobImage m_resultImage m_traceImage) (some (.int o.1)) := by
  refine std_i (own := RX11) (by decide +kernel) rfl (Nat.le_of_ble_eq_true rfl) ?_
  intro p e s m args below meth c Q X ret H locs hP hS ls hl
  have hx := X.1
  have hb := X.2.1
  have hl : lv_has ls 2 [(0, .ref (q 0))] := hl
  have ret : ∀ {H : Heap} {locs : List Loc} {pc : Nat} {ls : Array Slot} {v : Int32} {m_at : Int32} {m_value : Int32}, some (v, m_at, m_value) = some o → WP g A (wM g q m_thrown m_length m_at m_fault m_toldWords m_orders m_value m_hasUnit m_places m_clocks m_held m_x m_y m_z m_first m_second m_aside m_jobs m_jobsImage m_clocksImage m_heldImage m_hasImage m_tape m_read m_order m_width m_guard m_points m_stages m_gain m_undo m_near m_quarter m_ln m_angle m_shift m_digit m_refused m_job m_jobKept m_result m_resultKept m_trace m_traceKept m_jobImage m_resultImage m_traceImage) H → va_S A s.heap H locs → decode cX11_digits pc = .ok (.ireturn, 1) → W p l e rm_X11_digits s m args below meth c H locs 0 0 Q (F0 m pc ls [.int v]) := by
    intro H locs pc ls v m_at m_value h hP hS hd
    cases h
    exact ret hP hS hd
  have b50 : ∀ (k10 : Int32 → Int32 → Int32 → Option (Int32 × Int32 × Int32)) (hk10 : ∀ (x1 : Int32) (m_at : Int32) (m_value : Int32) (H : Heap) (locs : List Loc) (ls : Array Slot), k10 x1 m_at m_value = some o → WP g A (wM g q m_thrown m_length m_at m_fault m_toldWords m_orders m_value m_hasUnit m_places m_clocks m_held m_x m_y m_z m_first m_second m_aside m_jobs m_jobsImage m_clocksImage m_heldImage m_hasImage m_tape m_read m_order m_width m_guard m_points m_stages m_gain m_undo m_near m_quarter m_ln m_angle m_shift m_digit m_refused m_job m_jobKept m_result m_resultKept m_trace m_traceKept m_jobImage m_resultImage m_traceImage) H → va_S A s.heap H locs → lv_has ls 2 [(0, .ref (q 0)), (1, .int x1)] → W p l e rm_X11_digits s m args below meth c H locs 0 0 Q (F0 m 10 ls [])) , ∀ (x1 : Int32) (m_at : Int32) (m_value : Int32) (H : Heap) (locs : List Loc) (ls : Array Slot), f_X11_digits_b50  m_length m_tape k10 x1 m_at m_value = some o → WP g A (wM g q m_thrown m_length m_at m_fault m_toldWords m_orders m_value m_hasUnit m_places m_clocks m_held m_x m_y m_z m_first m_second m_aside m_jobs m_jobsImage m_clocksImage m_heldImage m_hasImage m_tape m_read m_order m_width m_guard m_points m_stages m_gain m_undo m_near m_quarter m_ln m_angle m_shift m_digit m_refused m_job m_jobKept m_result m_resultKept m_trace m_traceKept m_jobImage m_resultImage m_traceImage) H → va_S A s.heap H locs → lv_has ls 2 [(0, .ref (q 0)), (1, .int x1)] → W p l e rm_X11_digits s m args below meth c H locs 0 0 Q (F0 m 50 ls []) := by
    intro k10 hk10 x1 m_at m_value H locs ls h hP hS hl
    unfold f_X11_digits_b50 at h
    refine lv_aload_n hx hb dX11_digits_50 rfl (lv_at hl 0 rfl) ?_
    refine lv_dup hx hb dX11_digits_51 rfl ?_
    refine gf_X11_24_M_0 X hP dX11_digits_52 ?_
    refine lv_iconst (v := 1) hx hb dX11_digits_55 rfl ?_
    refine lv_iadd hx hb dX11_digits_56 ?_
    refine lv_topi (fun v3 ev3 => ?_)
    have h := lt_at ev3 h
    refine pf_X11_24_M_0 (v0 := v3) X hP hS dX11_digits_57 (fun H locs hP hS => ?_)
    refine lv_goto (tgt := 10) hx hb dX11_digits_60 rfl ?_
    exact hk10 x1 v3 m_value _ _ _ h hP hS (lv_sub hl [0, 1] rfl)
  have l10 : ∀ (n : Nat), ∀ (x1 : Int32) (m_at : Int32) (m_value : Int32) (H : Heap) (locs : List Loc) (ls : Array Slot), f_X11_digits_l10  m_length m_tape  n x1 m_at m_value = some o → WP g A (wM g q m_thrown m_length m_at m_fault m_toldWords m_orders m_value m_hasUnit m_places m_clocks m_held m_x m_y m_z m_first m_second m_aside m_jobs m_jobsImage m_clocksImage m_heldImage m_hasImage m_tape m_read m_order m_width m_guard m_points m_stages m_gain m_undo m_near m_quarter m_ln m_angle m_shift m_digit m_refused m_job m_jobKept m_result m_resultKept m_trace m_traceKept m_jobImage m_resultImage m_traceImage) H → va_S A s.heap H locs → lv_has ls 2 [(0, .ref (q 0)), (1, .int x1)] → W p l e rm_X11_digits s m args below meth c H locs 0 0 Q (F0 m 10 ls []) := by
    intro  n
    induction n with
    | zero =>
      intro x1 m_at m_value H locs ls h
      exact nz_of h
    | succ n ih =>
      intro x1 m_at m_value H locs ls h hP hS hl
      rw [f_X11_digits_l10] at h
      refine lv_aload_n hx hb dX11_digits_10 rfl (lv_at hl 0 rfl) ?_
      obtain ⟨o1, hco1, h⟩ := bd_of h
      refine kV (rest := []) X dX11_digits_11 wd_5_118 mw_X11_here wd_5_120 wp_6_12 hP (k0 := 0) rfl rfl rfl hS (fun _ z => z) (c_X11_here hco1) rfl hl.1 rfl (Nat.le_of_ble_eq_true rfl) rfl rfl ⟨Nat.le_of_ble_eq_true rfl, Nat.le_of_ble_eq_true rfl⟩ (fun H locs hP _ _ hS => ?_)
      refine W.eq (g2 := F0 m 14 ls [.int o1]) rfl ?_
      obtain ⟨o2, hco2, h⟩ := bd_of h
      refine kS (rest := []) X dX11_digits_14 wd_5_150 mw_X11_isDigit wd_5_151 hP hS (fun _ z => z) (c_X11_isDigit hco2) rfl hl.1 rfl (Nat.le_of_ble_eq_true rfl) rfl rfl ⟨Nat.le_of_ble_eq_true rfl, Nat.le_of_ble_eq_true rfl⟩ (fun H locs hP _ _ hS => ?_)
      refine W.eq (g2 := F0 m 17 ls [.int (bI o2)]) rfl ?_
      refine rb_eq (tgt := 63) hx hb dX11_digits_17 rfl (fun c17 => ?_) (fun c17 => ?_)
      · have h := br_n c17 h
        refine lv_aload_n hx hb dX11_digits_63 rfl (lv_at hl 0 rfl) ?_
        refine gf_X11_24_M_0 X hP dX11_digits_64 ?_
        refine lv_iload_n hx hb dX11_digits_67 rfl (lv_at hl 1 rfl) ?_
        refine lv_isub hx hb dX11_digits_68 ?_
        exact ret h hP hS dX11_digits_69
      · have h := br_p c17 h
        refine lv_aload_n hx hb dX11_digits_20 rfl (lv_at hl 0 rfl) ?_
        refine gf_X11_24_M_0 X hP dX11_digits_21 ?_
        refine lv_iload_n hx hb dX11_digits_24 rfl (lv_at hl 1 rfl) ?_
        refine lv_isub hx hb dX11_digits_25 ?_
        refine lv_bipush (v := 9) hx hb dX11_digits_26 rfl ?_
        refine lv_icmp_ge (tgt := 50) hx hb dX11_digits_28 rfl (fun c28 => ?_) (fun c28 => ?_)
        · have h := br_p c28 h
          exact b50 (f_X11_digits_l10  m_length m_tape  n) ih  x1 m_at m_value _ _ _ h hP hS (lv_sub hl [0, 1] rfl)
        · have h := br_n c28 h
          refine lv_aload_n hx hb dX11_digits_31 rfl (lv_at hl 0 rfl) ?_
          refine lv_bipush (v := 10) hx hb dX11_digits_32 rfl ?_
          refine lv_aload_n hx hb dX11_digits_34 rfl (lv_at hl 0 rfl) ?_
          refine gf_X11_117_M_0 X hP dX11_digits_35 ?_
          refine lv_imul hx hb dX11_digits_38 ?_
          refine lv_aload_n hx hb dX11_digits_39 rfl (lv_at hl 0 rfl) ?_
          obtain ⟨o4, hco4, h⟩ := bd_of h
          refine kV (rest := [.int ((10 : Int32) * m_value), .ref (q 0)]) X dX11_digits_40 wd_5_118 mw_X11_here wd_5_120 wp_6_12 hP (k0 := 0) rfl rfl rfl hS (fun _ z => z) (c_X11_here hco4) rfl hl.1 rfl (Nat.le_of_ble_eq_true rfl) rfl rfl ⟨Nat.le_of_ble_eq_true rfl, Nat.le_of_ble_eq_true rfl⟩ (fun H locs hP _ _ hS => ?_)
          refine W.eq (g2 := F0 m 43 ls [.int o4, .int ((10 : Int32) * m_value), .ref (q 0)]) rfl ?_
          refine lv_iadd hx hb dX11_digits_43 ?_
          refine lv_bipush (v := 48) hx hb dX11_digits_44 rfl ?_
          refine lv_isub hx hb dX11_digits_46 ?_
          refine lv_topi (fun v5 ev5 => ?_)
          have h := lt_at ev5 h
          refine pf_X11_117_M_0 (v0 := v5) X hP hS dX11_digits_47 (fun H locs hP hS => ?_)
          exact b50 (f_X11_digits_l10  m_length m_tape  n) ih  x1 m_at v5 _ _ _ h hP hS (lv_sub hl [0, 1] rfl)
  unfold f_X11_digits at h
  refine lv_aload_n hx hb dX11_digits_0 rfl (lv_at hl 0 rfl) ?_
  refine gf_X11_24_M_0 X hP dX11_digits_1 ?_
  refine lv_istore_n (lv' := [(1, .int m_at), (0, .ref (q 0))]) hx hb dX11_digits_4 rfl hl (by decide) rfl (fun ls hl => ?_)
  refine lv_aload_n hx hb dX11_digits_5 rfl (lv_at hl 1 rfl) ?_
  refine lv_iconst (v := 0) hx hb dX11_digits_6 rfl ?_
  refine pf_X11_117_M_0 (v0 := (0 : Int32)) X hP hS dX11_digits_7 (fun H locs hP hS => ?_)
  exact l10  FU m_at m_at (0 : Int32) _ _ _ h hP hS (lv_sub hl [1, 0] rfl)
abbrev rm_X11_operand : Room := { frames := 2, cells := 0, slots := 0, locals := 41 }
set_option maxRecDepth 100000 in
set_option maxHeartbeats 4000000 in
theorem c_X11_operand {g : gT} {l : Launch} {A : Nat → Prop} {q : Nat → Nat} {m_thrown : Int32} {m_length : Int32} {m_at : Int32} {m_fault : Int32} {m_toldWords : Int32} {m_orders : Int32} {m_value : Int32} {m_hasUnit : Bool} {m_places : Int32} {m_clocks : Int32} {m_held : Bool} {m_x : Int64} {m_y : Int64} {m_z : Int64} {m_first : Int64} {m_second : Int64} {m_aside : Int32} {m_jobs : Int32} {m_jobsImage : Int32} {m_clocksImage : Int32} {m_heldImage : Bool} {m_hasImage : Bool} {m_tape : Nat → Int32} {m_read : Nat → Int32} {m_order : Nat → Int32} {m_width : Nat → Int32} {m_guard : Nat → Int32} {m_points : Nat → Int32} {m_stages : Nat → Int32} {m_gain : Nat → Int32} {m_undo : Nat → Int32} {m_near : Nat → Bool} {m_quarter : Nat → Int64} {m_ln : Nat → Int64} {m_angle : Nat → Int64} {m_shift : Nat → Int32} {m_digit : Nat → Int32} {m_refused : Nat → Int32} {m_job : Nat → Int32} {m_jobKept : Nat → Int32} {m_result : Nat → Int32} {m_resultKept : Nat → Int32} {m_trace : Nat → Int64} {m_traceKept : Nat → Int64} {m_jobImage : Nat → Int32} {m_resultImage : Nat → Int32} {m_traceImage : Nat → Int64} {p0 : Int32} {p1 : Int32} {o : Int32 × Int32 × Int32 × (Nat → Int32)} (h : f_X11_operand p0 p1 m_length m_at m_fault m_orders m_value m_tape m_order = some o) : Std g l yX11_operand (.code yX11_operand cX11_operand 7 none :: gw) rm_X11_operand A [.ref (q 0), .int p0, .int p1] (wM g q m_thrown m_length m_at m_fault m_toldWords m_orders m_value m_hasUnit m_places m_clocks m_held m_x m_y m_z m_first m_second m_aside m_jobs m_jobsImage m_clocksImage m_heldImage m_hasImage m_tape m_read m_order m_width m_guard m_points m_stages m_gain m_undo m_near m_quarter m_ln m_angle m_shift m_digit m_refused m_job m_jobKept m_result m_resultKept m_trace m_traceKept m_jobImage m_resultImage m_traceImage) (wM g q m_thrown m_length o.1 o.2.1 m_toldWords m_orders o.2.2.1 m_hasUnit m_places m_clocks m_held m_x m_y m_z m_first m_second m_aside m_jobs m_jobsImage m_clocksImage m_heldImage m_hasImage m_tape m_read o.2.2.2 m_width m_guard m_points m_stages m_gain m_undo m_near m_quarter m_ln m_angle m_shift m_digit m_refused m_job m_jobKept m_result m_resultKept m_trace m_traceKept m_jobImage m_resultImage m_traceImage) none := by
  refine std_v (own := RX11) (by decide +kernel) rfl (Nat.le_of_ble_eq_true rfl) ?_
  intro p e s m args below meth c Q X ret H locs hP hS ls hl
  have hx := X.1
  have hb := X.2.1
  have hl : lv_has ls 7 [(0, .ref (q 0)), (1, .int p0), (2, .int p1)] := hl
  have ret : ∀ {H : Heap} {locs : List Loc} {pc : Nat} {ls : Array Slot} {m_at : Int32} {m_fault : Int32} {m_value : Int32} {m_order : Nat → Int32}, some (m_at, m_fault, m_value, m_order) = some o → WP g A (wM g q m_thrown m_length m_at m_fault m_toldWords m_orders m_value m_hasUnit m_places m_clocks m_held m_x m_y m_z m_first m_second m_aside m_jobs m_jobsImage m_clocksImage m_heldImage m_hasImage m_tape m_read m_order m_width m_guard m_points m_stages m_gain m_undo m_near m_quarter m_ln m_angle m_shift m_digit m_refused m_job m_jobKept m_result m_resultKept m_trace m_traceKept m_jobImage m_resultImage m_traceImage) H → va_S A s.heap H locs → decode cX11_operand pc = .ok (.return_, 1) → W p l e rm_X11_operand s m args below meth c H locs 0 0 Q (F0 m pc ls []) := by
    intro H locs pc ls m_at m_fault m_value m_order h hP hS hd
    cases h
    exact ret hP hS hd
  have b78 : ∀ (x4 : Int32) (m_at : Int32) (m_fault : Int32) (m_value : Int32) (m_order : Nat → Int32) (H : Heap) (locs : List Loc) (ls : Array Slot), f_X11_operand_b78  m_length m_orders m_tape  x4 m_at m_fault m_value m_order = some o → WP g A (wM g q m_thrown m_length m_at m_fault m_toldWords m_orders m_value m_hasUnit m_places m_clocks m_held m_x m_y m_z m_first m_second m_aside m_jobs m_jobsImage m_clocksImage m_heldImage m_hasImage m_tape m_read m_order m_width m_guard m_points m_stages m_gain m_undo m_near m_quarter m_ln m_angle m_shift m_digit m_refused m_job m_jobKept m_result m_resultKept m_trace m_traceKept m_jobImage m_resultImage m_traceImage) H → va_S A s.heap H locs → lv_has ls 7 [(0, .ref (q 0)), (4, .int x4)] → W p l e rm_X11_operand s m args below meth c H locs 0 0 Q (F0 m 78 ls []) := by
    intro  x4 m_at m_fault m_value m_order H locs ls h hP hS hl
    unfold f_X11_operand_b78 at h
    refine lv_aload_n hx hb dX11_operand_78 rfl (lv_at hl 0 rfl) ?_
    refine lv_iload hx hb dX11_operand_79 (lv_at hl 1 rfl) ?_
    obtain ⟨o4, hco4, h⟩ := bd_of h
    refine kV (rest := []) X dX11_operand_81 wd_5_142 mw_X11_fails wd_5_144 wp_7_0 hP (k0 := 0) rfl rfl rfl hS (fun _ z => z) (c_X11_fails hco4) rfl hl.1 rfl (Nat.le_of_ble_eq_true rfl) rfl rfl ⟨Nat.le_of_ble_eq_true rfl, Nat.le_of_ble_eq_true rfl⟩ (fun H locs hP _ _ hS => ?_)
    refine W.eq (g2 := F0 m 84 ls []) rfl ?_
    exact ret h hP hS dX11_operand_84
  have b85 : ∀ (x1 : Int32) (x2 : Int32) (x3 : Int32) (m_at : Int32) (m_fault : Int32) (m_value : Int32) (m_order : Nat → Int32) (H : Heap) (locs : List Loc) (ls : Array Slot), f_X11_operand_b85  m_length m_orders m_tape  x1 x2 x3 m_at m_fault m_value m_order = some o → WP g A (wM g q m_thrown m_length m_at m_fault m_toldWords m_orders m_value m_hasUnit m_places m_clocks m_held m_x m_y m_z m_first m_second m_aside m_jobs m_jobsImage m_clocksImage m_heldImage m_hasImage m_tape m_read m_order m_width m_guard m_points m_stages m_gain m_undo m_near m_quarter m_ln m_angle m_shift m_digit m_refused m_job m_jobKept m_result m_resultKept m_trace m_traceKept m_jobImage m_resultImage m_traceImage) H → va_S A s.heap H locs → lv_has ls 7 [(0, .ref (q 0)), (1, .int x1), (2, .int x2), (3, .int x3)] → W p l e rm_X11_operand s m args below meth c H locs 0 0 Q (F0 m 85 ls []) := by
    intro  x1 x2 x3 m_at m_fault m_value m_order H locs ls h hP hS hl
    unfold f_X11_operand_b85 at h
    refine lv_aload_n hx hb dX11_operand_85 rfl (lv_at hl 0 rfl) ?_
    refine gf_X11_126_M_0 X hP dX11_operand_86 ?_
    refine lv_iload_n hx hb dX11_operand_89 rfl (lv_at hl 1 rfl) ?_
    refine lv_iconst (v := 4) hx hb dX11_operand_90 rfl ?_
    refine lv_iadd hx hb dX11_operand_91 ?_
    refine lv_iload_n hx hb dX11_operand_92 rfl (lv_at hl 2 rfl) ?_
    refine lv_iadd hx hb dX11_operand_93 ?_
    refine lv_iconst (v := (-1)) hx hb dX11_operand_94 rfl ?_
    obtain ⟨hi95, h⟩ := gv_of h
    refine as_M_3 (v0 := (-1 : Int32)) X hP hS hi95 dX11_operand_95 (fun H locs hP hS => ?_)
    refine lv_iload_n hx hb dX11_operand_96 rfl (lv_at hl 3 rfl) ?_
    refine lv_bipush (v := 64) hx hb dX11_operand_97 rfl ?_
    refine lv_icmp_eq (tgt := 131) hx hb dX11_operand_99 rfl (fun c99 => ?_) (fun c99 => ?_)
    · have h := br_p c99 h
      refine lv_aload_n hx hb dX11_operand_131 rfl (lv_at hl 0 rfl) ?_
      obtain ⟨o6, hco6, h⟩ := bd_of h
      refine kV (rest := []) X dX11_operand_132 wd_5_118 mw_X11_here wd_5_120 wp_6_12 hP (k0 := 0) rfl rfl rfl hS (fun _ z => z) (c_X11_here hco6) rfl hl.1 rfl (Nat.le_of_ble_eq_true rfl) rfl rfl ⟨Nat.le_of_ble_eq_true rfl, Nat.le_of_ble_eq_true rfl⟩ (fun H locs hP _ _ hS => ?_)
      refine W.eq (g2 := F0 m 135 ls [.int o6]) rfl ?_
      refine lv_bipush (v := 39) hx hb dX11_operand_135 rfl ?_
      refine jx1 h (P := fun (v7 : Bool) => ∀ ls : Array Slot, lv_has ls 7 [(0, .ref (q 0)), (1, .int x1), (2, .int x2)] → W p l e rm_X11_operand s m args below meth c H locs 0 0 Q (F0 m 145 ls [.int (bI v7)])) ?_ ?_
      · intro v7 h ls hl
        refine lv_istore (lv' := [(6, .int (bI v7)), (0, .ref (q 0)), (1, .int x1), (2, .int x2)]) hx hb dX11_operand_145 hl (by decide) rfl (fun ls hl => ?_)
        refine lv_aload_n hx hb dX11_operand_147 rfl (lv_at hl 1 rfl) ?_
        refine lv_dup hx hb dX11_operand_148 rfl ?_
        refine gf_X11_24_M_0 X hP dX11_operand_149 ?_
        refine lv_iload hx hb dX11_operand_152 (lv_at hl 0 rfl) ?_
        refine lv_iadd hx hb dX11_operand_154 ?_
        refine lv_topi (fun v8 ev8 => ?_)
        have h := lt_at ev8 h
        refine pf_X11_24_M_0 (v0 := v8) X hP hS dX11_operand_155 (fun H locs hP hS => ?_)
        refine lv_aload_n hx hb dX11_operand_158 rfl (lv_at hl 1 rfl) ?_
        refine gf_X11_126_M_0 X hP dX11_operand_159 ?_
        refine lv_iload_n hx hb dX11_operand_162 rfl (lv_at hl 2 rfl) ?_
        refine lv_iconst (v := 4) hx hb dX11_operand_163 rfl ?_
        refine lv_iadd hx hb dX11_operand_164 ?_
        refine lv_iload_n hx hb dX11_operand_165 rfl (lv_at hl 3 rfl) ?_
        refine lv_iadd hx hb dX11_operand_166 ?_
        refine lv_iconst (v := 2) hx hb dX11_operand_167 rfl ?_
        refine lv_aload_n hx hb dX11_operand_168 rfl (lv_at hl 1 rfl) ?_
        refine gf_X11_117_M_0 X hP dX11_operand_169 ?_
        refine lv_imul hx hb dX11_operand_172 ?_
        refine lv_iload hx hb dX11_operand_173 (lv_at hl 0 rfl) ?_
        refine lv_iadd hx hb dX11_operand_175 ?_
        refine lv_topi (fun v9 ev9 => ?_)
        have h := lt_at ev9 h
        obtain ⟨hi176, h⟩ := gv_of h
        refine as_M_3 (v0 := v9) X hP hS hi176 dX11_operand_176 (fun H locs hP hS => ?_)
        exact ret h hP hS dX11_operand_177
      · intro J h
        refine lv_icmp_ne (tgt := 144) hx hb dX11_operand_137 rfl (fun c137 => ?_) (fun c137 => ?_)
        · refine lv_iconst (v := 0) hx hb dX11_operand_144 rfl ?_
          exact J _ (lt_in c137 h) ls (lv_sub hl [0, 1, 2] rfl)
        · refine lv_iconst (v := 1) hx hb dX11_operand_140 rfl ?_
          refine lv_goto (tgt := 145) hx hb dX11_operand_141 rfl ?_
          exact J _ (lt_ip c137 h) ls (lv_sub hl [0, 1, 2] rfl)
    · have h := br_n c99 h
      refine lv_aload_n hx hb dX11_operand_102 rfl (lv_at hl 0 rfl) ?_
      refine gf_X11_126_M_0 X hP dX11_operand_103 ?_
      refine lv_iload_n hx hb dX11_operand_106 rfl (lv_at hl 1 rfl) ?_
      refine lv_iconst (v := 1) hx hb dX11_operand_107 rfl ?_
      refine lv_iadd hx hb dX11_operand_108 ?_
      refine lv_iload_n hx hb dX11_operand_109 rfl (lv_at hl 2 rfl) ?_
      refine lv_iadd hx hb dX11_operand_110 ?_
      refine lv_iload_n hx hb dX11_operand_111 rfl (lv_at hl 3 rfl) ?_
      refine lv_bipush (v := 45) hx hb dX11_operand_112 rfl ?_
      refine jx1 h (P := fun (v10 : Int32) => ∀ ls : Array Slot, lv_has ls 7 [] → W p l e rm_X11_operand s m args below meth c H locs 0 0 Q (F0 m 129 ls [.int v10, .int ((x1 + (1 : Int32)) + x2), .ref (q 3)])) ?_ ?_
      · intro v10 h ls hl
        obtain ⟨hi129, h⟩ := gv_of h
        refine as_M_3 (v0 := v10) X hP hS hi129 dX11_operand_129 (fun H locs hP hS => ?_)
        exact ret h hP hS dX11_operand_130
      · intro J h
        refine lv_icmp_ne (tgt := 125) hx hb dX11_operand_114 rfl (fun c114 => ?_) (fun c114 => ?_)
        · refine lv_aload_n hx hb dX11_operand_125 rfl (lv_at hl 0 rfl) ?_
          refine gf_X11_117_M_0 X hP dX11_operand_126 ?_
          exact J _ (lt_in c114 h) ls (lv_sub hl [] rfl)
        · refine lv_aload_n hx hb dX11_operand_117 rfl (lv_at hl 0 rfl) ?_
          refine gf_X11_117_M_0 X hP dX11_operand_118 ?_
          refine lv_ineg hx hb dX11_operand_121 ?_
          refine lv_goto (tgt := 129) hx hb dX11_operand_122 rfl ?_
          exact J _ (lt_ip c114 h) ls (lv_sub hl [] rfl)
  have b33 : ∀ (x1 : Int32) (x2 : Int32) (x3 : Int32) (x4 : Int32) (m_at : Int32) (m_fault : Int32) (m_value : Int32) (m_order : Nat → Int32) (H : Heap) (locs : List Loc) (ls : Array Slot), f_X11_operand_b33  m_length m_orders m_tape  x1 x2 x3 x4 m_at m_fault m_value m_order = some o → WP g A (wM g q m_thrown m_length m_at m_fault m_toldWords m_orders m_value m_hasUnit m_places m_clocks m_held m_x m_y m_z m_first m_second m_aside m_jobs m_jobsImage m_clocksImage m_heldImage m_hasImage m_tape m_read m_order m_width m_guard m_points m_stages m_gain m_undo m_near m_quarter m_ln m_angle m_shift m_digit m_refused m_job m_jobKept m_result m_resultKept m_trace m_traceKept m_jobImage m_resultImage m_traceImage) H → va_S A s.heap H locs → lv_has ls 7 [(0, .ref (q 0)), (1, .int x1), (2, .int x2), (3, .int x3), (4, .int x4)] → W p l e rm_X11_operand s m args below meth c H locs 0 0 Q (F0 m 33 ls []) := by
    intro  x1 x2 x3 x4 m_at m_fault m_value m_order H locs ls h hP hS hl
    unfold f_X11_operand_b33 at h
    refine lv_aload_n hx hb dX11_operand_33 rfl (lv_at hl 0 rfl) ?_
    obtain ⟨o3, hco3, h⟩ := bd_of h
    refine kV (rest := []) X dX11_operand_34 wd_5_184 mw_X11_digits wd_5_186 wp_7_6 hP (k0 := 0) rfl rfl rfl hS (fun _ z => z) (c_X11_digits hco3) rfl hl.1 rfl (Nat.le_of_ble_eq_true rfl) rfl rfl ⟨Nat.le_of_ble_eq_true rfl, Nat.le_of_ble_eq_true rfl⟩ (fun H locs hP _ _ hS => ?_)
    refine W.eq (g2 := F0 m 37 ls [.int o3.1]) rfl ?_
    refine lv_istore (lv' := [(5, .int o3.1), (0, .ref (q 0)), (1, .int x1), (2, .int x2), (3, .int x3), (4, .int x4)]) hx hb dX11_operand_37 hl (by decide) rfl (fun ls hl => ?_)
    refine lv_iload hx hb dX11_operand_39 (lv_at hl 0 rfl) ?_
    refine lv_if_eq (tgt := 78) hx hb dX11_operand_41 rfl (fun c41 => ?_) (fun c41 => ?_)
    · have h := br_p c41 h
      exact b78   x4 o3.2.1 m_fault o3.2.2 m_order _ _ _ h hP hS (lv_sub hl [1, 5] rfl)
    · have h := br_n c41 h
      refine lv_iload hx hb dX11_operand_44 (lv_at hl 0 rfl) ?_
      refine lv_iload_n hx hb dX11_operand_46 rfl (lv_at hl 4 rfl) ?_
      refine lv_bipush (v := 64) hx hb dX11_operand_47 rfl ?_
      refine jx1 h (P := fun (v5 : Int32) => ∀ ls : Array Slot, lv_has ls 7 [(0, .ref (q 0)), (1, .int x1), (2, .int x2), (3, .int x3), (4, .int x4)] → W p l e rm_X11_operand s m args below meth c H locs 0 0 Q (F0 m 58 ls [.int v5, .int o3.1])) ?_ ?_
      · intro v5 h ls hl
        refine lv_icmp_gt (tgt := 78) hx hb dX11_operand_58 rfl (fun c58 => ?_) (fun c58 => ?_)
        · have h := br_p c58 h
          exact b78   x4 o3.2.1 m_fault o3.2.2 m_order _ _ _ h hP hS (lv_sub hl [0, 4] rfl)
        · have h := br_n c58 h
          refine lv_iload_n hx hb dX11_operand_61 rfl (lv_at hl 3 rfl) ?_
          refine lv_bipush (v := 64) hx hb dX11_operand_62 rfl ?_
          refine lv_icmp_ne (tgt := 85) hx hb dX11_operand_64 rfl (fun c64 => ?_) (fun c64 => ?_)
          · have h := br_n c64 h
            exact b85   x1 x2 x3 o3.2.1 m_fault o3.2.2 m_order _ _ _ h hP hS (lv_sub hl [0, 1, 2, 3] rfl)
          · have h := br_p c64 h
            refine lv_aload_n hx hb dX11_operand_67 rfl (lv_at hl 0 rfl) ?_
            refine gf_X11_117_M_0 X hP dX11_operand_68 ?_
            refine lv_aload_n hx hb dX11_operand_71 rfl (lv_at hl 0 rfl) ?_
            refine gf_X11_123_M_0 X hP dX11_operand_72 ?_
            refine lv_icmp_lt (tgt := 85) hx hb dX11_operand_75 rfl (fun c75 => ?_) (fun c75 => ?_)
            · have h := br_p c75 h
              exact b85   x1 x2 x3 o3.2.1 m_fault o3.2.2 m_order _ _ _ h hP hS (lv_sub hl [0, 1, 2, 3] rfl)
            · have h := br_n c75 h
              exact b78   x4 o3.2.1 m_fault o3.2.2 m_order _ _ _ h hP hS (lv_sub hl [0, 4] rfl)
      · intro J h
        refine lv_icmp_ne (tgt := 56) hx hb dX11_operand_49 rfl (fun c49 => ?_) (fun c49 => ?_)
        · refine lv_bipush (v := 9) hx hb dX11_operand_56 rfl ?_
          exact J _ (lt_in c49 h) ls (lv_sub hl [1, 2, 3, 4, 5] rfl)
        · refine lv_iconst (v := 2) hx hb dX11_operand_52 rfl ?_
          refine lv_goto (tgt := 58) hx hb dX11_operand_53 rfl ?_
          exact J _ (lt_ip c49 h) ls (lv_sub hl [1, 2, 3, 4, 5] rfl)
  have b23 : ∀ (x1 : Int32) (x2 : Int32) (x3 : Int32) (x4 : Int32) (m_at : Int32) (m_fault : Int32) (m_value : Int32) (m_order : Nat → Int32) (H : Heap) (locs : List Loc) (ls : Array Slot), f_X11_operand_b23  m_length m_orders m_tape  x1 x2 x3 x4 m_at m_fault m_value m_order = some o → WP g A (wM g q m_thrown m_length m_at m_fault m_toldWords m_orders m_value m_hasUnit m_places m_clocks m_held m_x m_y m_z m_first m_second m_aside m_jobs m_jobsImage m_clocksImage m_heldImage m_hasImage m_tape m_read m_order m_width m_guard m_points m_stages m_gain m_undo m_near m_quarter m_ln m_angle m_shift m_digit m_refused m_job m_jobKept m_result m_resultKept m_trace m_traceKept m_jobImage m_resultImage m_traceImage) H → va_S A s.heap H locs → lv_has ls 7 [(0, .ref (q 0)), (1, .int x1), (2, .int x2), (3, .int x3), (4, .int x4)] → W p l e rm_X11_operand s m args below meth c H locs 0 0 Q (F0 m 23 ls []) := by
    intro  x1 x2 x3 x4 m_at m_fault m_value m_order H locs ls h hP hS hl
    unfold f_X11_operand_b23 at h
    refine lv_aload_n hx hb dX11_operand_23 rfl (lv_at hl 0 rfl) ?_
    refine lv_dup hx hb dX11_operand_24 rfl ?_
    refine gf_X11_24_M_0 X hP dX11_operand_25 ?_
    refine lv_iconst (v := 1) hx hb dX11_operand_28 rfl ?_
    refine lv_iadd hx hb dX11_operand_29 ?_
    refine lv_topi (fun v2 ev2 => ?_)
    have h := lt_at ev2 h
    refine pf_X11_24_M_0 (v0 := v2) X hP hS dX11_operand_30 (fun H locs hP hS => ?_)
    exact b33   x1 x2 x3 x4 v2 m_fault m_value m_order _ _ _ h hP hS (lv_sub hl [0, 1, 2, 3, 4] rfl)
  unfold f_X11_operand at h
  refine lv_aload_n hx hb dX11_operand_0 rfl (lv_at hl 0 rfl) ?_
  obtain ⟨o1, hco1, h⟩ := bd_of h
  refine kV (rest := []) X dX11_operand_1 wd_5_114 mw_X11_look wd_5_116 wp_6_11 hP (k0 := 0) rfl rfl rfl hS (fun _ z => z) (c_X11_look hco1) rfl hl.1 rfl (Nat.le_of_ble_eq_true rfl) rfl rfl ⟨Nat.le_of_ble_eq_true rfl, Nat.le_of_ble_eq_true rfl⟩ (fun H locs hP _ _ hS => ?_)
  refine W.eq (g2 := F0 m 4 ls [.int o1.1]) rfl ?_
  refine lv_istore_n (lv' := [(3, .int o1.1), (0, .ref (q 0)), (1, .int p0), (2, .int p1)]) hx hb dX11_operand_4 rfl hl (by decide) rfl (fun ls hl => ?_)
  refine lv_aload_n hx hb dX11_operand_5 rfl (lv_at hl 1 rfl) ?_
  refine gf_X11_24_M_0 X hP dX11_operand_6 ?_
  refine lv_istore (lv' := [(4, .int o1.2), (3, .int o1.1), (0, .ref (q 0)), (1, .int p0), (2, .int p1)]) hx hb dX11_operand_9 hl (by decide) rfl (fun ls hl => ?_)
  refine lv_iload_n hx hb dX11_operand_11 rfl (lv_at hl 1 rfl) ?_
  refine lv_bipush (v := 64) hx hb dX11_operand_12 rfl ?_
  refine lv_icmp_eq (tgt := 23) hx hb dX11_operand_14 rfl (fun c14 => ?_) (fun c14 => ?_)
  · have h := br_p c14 h
    exact b23   p0 p1 o1.1 o1.2 o1.2 m_fault m_value m_order _ _ _ h hP hS (lv_sub hl [2, 3, 4, 1, 0] rfl)
  · have h := br_n c14 h
    refine lv_iload_n hx hb dX11_operand_17 rfl (lv_at hl 1 rfl) ?_
    refine lv_bipush (v := 45) hx hb dX11_operand_18 rfl ?_
    refine lv_icmp_ne (tgt := 33) hx hb dX11_operand_20 rfl (fun c20 => ?_) (fun c20 => ?_)
    · have h := br_n c20 h
      exact b33   p0 p1 o1.1 o1.2 o1.2 m_fault m_value m_order _ _ _ h hP hS (lv_sub hl [2, 3, 4, 1, 0] rfl)
    · have h := br_p c20 h
      exact b23   p0 p1 o1.1 o1.2 o1.2 m_fault m_value m_order _ _ _ h hP hS (lv_sub hl [2, 3, 4, 1, 0] rfl)
abbrev rm_X11_orderLine : Room := { frames := 6, cells := 0, slots := 0, locals := 134 }
set_option maxRecDepth 100000 in
set_option maxHeartbeats 4000000 in
theorem c_X11_orderLine {g : gT} {l : Launch} {A : Nat → Prop} {q : Nat → Nat} {m_thrown : Int32} {m_length : Int32} {m_at : Int32} {m_fault : Int32} {m_toldWords : Int32} {m_orders : Int32} {m_value : Int32} {m_hasUnit : Bool} {m_places : Int32} {m_clocks : Int32} {m_held : Bool} {m_x : Int64} {m_y : Int64} {m_z : Int64} {m_first : Int64} {m_second : Int64} {m_aside : Int32} {m_jobs : Int32} {m_jobsImage : Int32} {m_clocksImage : Int32} {m_heldImage : Bool} {m_hasImage : Bool} {m_tape : Nat → Int32} {m_read : Nat → Int32} {m_order : Nat → Int32} {m_width : Nat → Int32} {m_guard : Nat → Int32} {m_points : Nat → Int32} {m_stages : Nat → Int32} {m_gain : Nat → Int32} {m_undo : Nat → Int32} {m_near : Nat → Bool} {m_quarter : Nat → Int64} {m_ln : Nat → Int64} {m_angle : Nat → Int64} {m_shift : Nat → Int32} {m_digit : Nat → Int32} {m_refused : Nat → Int32} {m_job : Nat → Int32} {m_jobKept : Nat → Int32} {m_result : Nat → Int32} {m_resultKept : Nat → Int32} {m_trace : Nat → Int64} {m_traceKept : Nat → Int64} {m_jobImage : Nat → Int32} {m_resultImage : Nat → Int32} {m_traceImage : Nat → Int64}  {o : Int32 × Int32 × Int32 × Int32 × (Nat → Int32)} (h : f_X11_orderLine  m_length m_at m_fault m_orders m_value m_tape m_order = some o) : Std g l yX11_orderLine (.code yX11_orderLine cX11_orderLine 6 none :: gw) rm_X11_orderLine A [.ref (q 0)] (wM g q m_thrown m_length m_at m_fault m_toldWords m_orders m_value m_hasUnit m_places m_clocks m_held m_x m_y m_z m_first m_second m_aside m_jobs m_jobsImage m_clocksImage m_heldImage m_hasImage m_tape m_read m_order m_width m_guard m_points m_stages m_gain m_undo m_near m_quarter m_ln m_angle m_shift m_digit m_refused m_job m_jobKept m_result m_resultKept m_trace m_traceKept m_jobImage m_resultImage m_traceImage) (wM g q m_thrown m_length o.1 o.2.1 m_toldWords o.2.2.1 o.2.2.2.1 m_hasUnit m_places m_clocks m_held m_x m_y m_z m_first m_second m_aside m_jobs m_jobsImage m_clocksImage m_heldImage m_hasImage m_tape m_read o.2.2.2.2 m_width m_guard m_points m_stages m_gain m_undo m_near m_quarter m_ln m_angle m_shift m_digit m_refused m_job m_jobKept m_result m_resultKept m_trace m_traceKept m_jobImage m_resultImage m_traceImage) none := by
  refine std_v (own := RX11) (by decide +kernel) rfl (Nat.le_of_ble_eq_true rfl) ?_
  intro p e s m args below meth c Q X ret H locs hP hS ls hl
  have hx := X.1
  have hb := X.2.1
  have hl : lv_has ls 6 [(0, .ref (q 0))] := hl
  have ret : ∀ {H : Heap} {locs : List Loc} {pc : Nat} {ls : Array Slot} {m_at : Int32} {m_fault : Int32} {m_orders : Int32} {m_value : Int32} {m_order : Nat → Int32}, some (m_at, m_fault, m_orders, m_value, m_order) = some o → WP g A (wM g q m_thrown m_length m_at m_fault m_toldWords m_orders m_value m_hasUnit m_places m_clocks m_held m_x m_y m_z m_first m_second m_aside m_jobs m_jobsImage m_clocksImage m_heldImage m_hasImage m_tape m_read m_order m_width m_guard m_points m_stages m_gain m_undo m_near m_quarter m_ln m_angle m_shift m_digit m_refused m_job m_jobKept m_result m_resultKept m_trace m_traceKept m_jobImage m_resultImage m_traceImage) H → va_S A s.heap H locs → decode cX11_orderLine pc = .ok (.return_, 1) → W p l e rm_X11_orderLine s m args below meth c H locs 0 0 Q (F0 m pc ls []) := by
    intro H locs pc ls m_at m_fault m_orders m_value m_order h hP hS hd
    cases h
    exact ret hP hS hd
  have b30 : ∀ (m_at : Int32) (m_fault : Int32) (m_orders : Int32) (m_value : Int32) (m_order : Nat → Int32) (H : Heap) (locs : List Loc) (ls : Array Slot), f_X11_orderLine_b30  m_length m_tape  m_at m_fault m_orders m_value m_order = some o → WP g A (wM g q m_thrown m_length m_at m_fault m_toldWords m_orders m_value m_hasUnit m_places m_clocks m_held m_x m_y m_z m_first m_second m_aside m_jobs m_jobsImage m_clocksImage m_heldImage m_hasImage m_tape m_read m_order m_width m_guard m_points m_stages m_gain m_undo m_near m_quarter m_ln m_angle m_shift m_digit m_refused m_job m_jobKept m_result m_resultKept m_trace m_traceKept m_jobImage m_resultImage m_traceImage) H → va_S A s.heap H locs → lv_has ls 6 [(0, .ref (q 0))] → W p l e rm_X11_orderLine s m args below meth c H locs 0 0 Q (F0 m 30 ls []) := by
    intro  m_at m_fault m_orders m_value m_order H locs ls h hP hS hl
    unfold f_X11_orderLine_b30 at h
    refine lv_aload_n hx hb dX11_orderLine_30 rfl (lv_at hl 0 rfl) ?_
    refine lv_aload_n hx hb dX11_orderLine_31 rfl (lv_at hl 0 rfl) ?_
    refine gf_X11_24_M_0 X hP dX11_orderLine_32 ?_
    obtain ⟨o4, hco4, h⟩ := bd_of h
    refine kV (rest := []) X dX11_orderLine_35 wd_5_142 mw_X11_fails wd_5_144 wp_7_0 hP (k0 := 0) rfl rfl rfl hS (fun _ z => z) (c_X11_fails hco4) rfl hl.1 rfl (Nat.le_of_ble_eq_true rfl) rfl rfl ⟨Nat.le_of_ble_eq_true rfl, Nat.le_of_ble_eq_true rfl⟩ (fun H locs hP _ _ hS => ?_)
    refine W.eq (g2 := F0 m 38 ls []) rfl ?_
    exact ret h hP hS dX11_orderLine_38
  have b136 : ∀ (m_at : Int32) (m_fault : Int32) (m_orders : Int32) (m_value : Int32) (m_order : Nat → Int32) (H : Heap) (locs : List Loc) (ls : Array Slot), f_X11_orderLine_b136  m_length m_tape  m_at m_fault m_orders m_value m_order = some o → WP g A (wM g q m_thrown m_length m_at m_fault m_toldWords m_orders m_value m_hasUnit m_places m_clocks m_held m_x m_y m_z m_first m_second m_aside m_jobs m_jobsImage m_clocksImage m_heldImage m_hasImage m_tape m_read m_order m_width m_guard m_points m_stages m_gain m_undo m_near m_quarter m_ln m_angle m_shift m_digit m_refused m_job m_jobKept m_result m_resultKept m_trace m_traceKept m_jobImage m_resultImage m_traceImage) H → va_S A s.heap H locs → lv_has ls 6 [(0, .ref (q 0))] → W p l e rm_X11_orderLine s m args below meth c H locs 0 0 Q (F0 m 136 ls []) := by
    intro  m_at m_fault m_orders m_value m_order H locs ls h hP hS hl
    unfold f_X11_orderLine_b136 at h
    refine lv_aload_n hx hb dX11_orderLine_136 rfl (lv_at hl 0 rfl) ?_
    refine lv_dup hx hb dX11_orderLine_137 rfl ?_
    refine gf_X11_123_M_0 X hP dX11_orderLine_138 ?_
    refine lv_iconst (v := 1) hx hb dX11_orderLine_141 rfl ?_
    refine lv_iadd hx hb dX11_orderLine_142 ?_
    refine lv_topi (fun v7 ev7 => ?_)
    have h := lt_at ev7 h
    refine pf_X11_123_M_0 (v0 := v7) X hP hS dX11_orderLine_143 (fun H locs hP hS => ?_)
    exact ret h hP hS dX11_orderLine_146
  have l105 : ∀ (n : Nat), ∀ (x3 : Int32) (x4 : Int32) (x5 : Int32) (m_at : Int32) (m_fault : Int32) (m_orders : Int32) (m_value : Int32) (m_order : Nat → Int32) (H : Heap) (locs : List Loc) (ls : Array Slot), f_X11_orderLine_l105  m_length m_tape  n x3 x4 x5 m_at m_fault m_orders m_value m_order = some o → WP g A (wM g q m_thrown m_length m_at m_fault m_toldWords m_orders m_value m_hasUnit m_places m_clocks m_held m_x m_y m_z m_first m_second m_aside m_jobs m_jobsImage m_clocksImage m_heldImage m_hasImage m_tape m_read m_order m_width m_guard m_points m_stages m_gain m_undo m_near m_quarter m_ln m_angle m_shift m_digit m_refused m_job m_jobKept m_result m_resultKept m_trace m_traceKept m_jobImage m_resultImage m_traceImage) H → va_S A s.heap H locs → lv_has ls 6 [(0, .ref (q 0)), (3, .int x3), (4, .int x4), (5, .int x5)] → W p l e rm_X11_orderLine s m args below meth c H locs 0 0 Q (F0 m 105 ls []) := by
    intro  n
    induction n with
    | zero =>
      intro x3 x4 x5 m_at m_fault m_orders m_value m_order H locs ls h
      exact nz_of h
    | succ n ih =>
      intro x3 x4 x5 m_at m_fault m_orders m_value m_order H locs ls h hP hS hl
      rw [f_X11_orderLine_l105] at h
      refine lv_iload hx hb dX11_orderLine_105 (lv_at hl 3 rfl) ?_
      refine lv_iload_n hx hb dX11_orderLine_107 rfl (lv_at hl 1 rfl) ?_
      obtain ⟨o6, hco6, h⟩ := bd_of h
      refine kS (rest := [.int x5]) X dX11_orderLine_108 wd_5_177 mw_X11_namesOf wd_5_178 hP hS (fun _ z => z) (c_X11_namesOf hco6) rfl hl.1 rfl (Nat.le_of_ble_eq_true rfl) rfl rfl ⟨Nat.le_of_ble_eq_true rfl, Nat.le_of_ble_eq_true rfl⟩ (fun H locs hP _ _ hS => ?_)
      refine W.eq (g2 := F0 m 111 ls [.int o6, .int x5]) rfl ?_
      refine lv_icmp_ge (tgt := 136) hx hb dX11_orderLine_111 rfl (fun c111 => ?_) (fun c111 => ?_)
      · have h := br_p c111 h
        exact b136   m_at m_fault m_orders m_value m_order _ _ _ h hP hS (lv_sub hl [0] rfl)
      · have h := br_n c111 h
        refine lv_aload_n hx hb dX11_orderLine_114 rfl (lv_at hl 0 rfl) ?_
        refine gf_X11_31_M_0 X hP dX11_orderLine_115 ?_
        refine lv_iconst (v := (-1)) hx hb dX11_orderLine_118 rfl ?_
        refine lv_icmp_ne (tgt := 136) hx hb dX11_orderLine_119 rfl (fun c119 => ?_) (fun c119 => ?_)
        · have h := br_n c119 h
          exact b136   m_at m_fault m_orders m_value m_order _ _ _ h hP hS (lv_sub hl [0] rfl)
        · have h := br_p c119 h
          refine lv_aload_n hx hb dX11_orderLine_122 rfl (lv_at hl 0 rfl) ?_
          refine lv_iload hx hb dX11_orderLine_123 (lv_at hl 2 rfl) ?_
          refine lv_iload hx hb dX11_orderLine_125 (lv_at hl 3 rfl) ?_
          obtain ⟨o8, hco8, h⟩ := bd_of h
          refine kV (rest := []) X dX11_orderLine_127 wd_5_180 mw_X11_operand wd_5_182 wp_7_5 hP (k0 := 0) rfl rfl rfl hS (fun _ z => z) (c_X11_operand hco8) rfl hl.1 rfl (Nat.le_of_ble_eq_true rfl) rfl rfl ⟨Nat.le_of_ble_eq_true rfl, Nat.le_of_ble_eq_true rfl⟩ (fun H locs hP _ _ hS => ?_)
          refine W.eq (g2 := F0 m 130 ls []) rfl ?_
          obtain ⟨v9, ev9⟩ : ∃ z : Int32, z = (x5 + 1) := ⟨_, rfl⟩
          have h := lt_at ev9 h
          refine lv_iinc (v := v9) (lv' := [(5, .int v9), (0, .ref (q 0)), (3, .int x3), (4, .int x4)]) hx hb dX11_orderLine_130 hl (k := 3) rfl (by rw [ev9]; rfl) (by decide) rfl (fun ls hl => ?_)
          refine lv_goto (tgt := 105) hx hb dX11_orderLine_133 rfl ?_
          exact ih x3 x4 v9 o8.1 o8.2.1 m_orders o8.2.2.1 o8.2.2.2 _ _ _ h hP hS (lv_sub hl [1, 2, 3, 0] rfl)
  have l64 : ∀ (n : Nat), ∀ (x3 : Int32) (x4 : Int32) (x5 : Int32) (m_at : Int32) (m_fault : Int32) (m_orders : Int32) (m_value : Int32) (m_order : Nat → Int32) (H : Heap) (locs : List Loc) (ls : Array Slot), f_X11_orderLine_l64  m_length m_tape  n x3 x4 x5 m_at m_fault m_orders m_value m_order = some o → WP g A (wM g q m_thrown m_length m_at m_fault m_toldWords m_orders m_value m_hasUnit m_places m_clocks m_held m_x m_y m_z m_first m_second m_aside m_jobs m_jobsImage m_clocksImage m_heldImage m_hasImage m_tape m_read m_order m_width m_guard m_points m_stages m_gain m_undo m_near m_quarter m_ln m_angle m_shift m_digit m_refused m_job m_jobKept m_result m_resultKept m_trace m_traceKept m_jobImage m_resultImage m_traceImage) H → va_S A s.heap H locs → lv_has ls 6 [(0, .ref (q 0)), (3, .int x3), (4, .int x4), (5, .int x5)] → W p l e rm_X11_orderLine s m args below meth c H locs 0 0 Q (F0 m 64 ls []) := by
    intro  n
    induction n with
    | zero =>
      intro x3 x4 x5 m_at m_fault m_orders m_value m_order H locs ls h
      exact nz_of h
    | succ n ih =>
      intro x3 x4 x5 m_at m_fault m_orders m_value m_order H locs ls h hP hS hl
      rw [f_X11_orderLine_l64] at h
      refine lv_iload hx hb dX11_orderLine_64 (lv_at hl 3 rfl) ?_
      refine lv_iconst (v := 3) hx hb dX11_orderLine_66 rfl ?_
      refine lv_icmp_ge (tgt := 102) hx hb dX11_orderLine_67 rfl (fun c67 => ?_) (fun c67 => ?_)
      · have h := br_p c67 h
        refine lv_iconst (v := 0) hx hb dX11_orderLine_102 rfl ?_
        refine lv_istore (lv' := [(5, .int 0), (0, .ref (q 0)), (3, .int x3), (4, .int x4)]) hx hb dX11_orderLine_103 hl (by decide) rfl (fun ls hl => ?_)
        exact l105  FU x3 x4 (0 : Int32) m_at m_fault m_orders m_value m_order _ _ _ h hP hS (lv_sub hl [1, 2, 3, 0] rfl)
      · have h := br_n c67 h
        refine lv_aload_n hx hb dX11_orderLine_70 rfl (lv_at hl 0 rfl) ?_
        refine gf_X11_126_M_0 X hP dX11_orderLine_71 ?_
        refine lv_iload hx hb dX11_orderLine_74 (lv_at hl 2 rfl) ?_
        refine lv_iconst (v := 1) hx hb dX11_orderLine_76 rfl ?_
        refine lv_iadd hx hb dX11_orderLine_77 ?_
        refine lv_iload hx hb dX11_orderLine_78 (lv_at hl 3 rfl) ?_
        refine lv_iadd hx hb dX11_orderLine_80 ?_
        refine lv_iconst (v := 0) hx hb dX11_orderLine_81 rfl ?_
        obtain ⟨hi82, h⟩ := gv_of h
        refine as_M_3 (v0 := (0 : Int32)) X hP hS hi82 dX11_orderLine_82 (fun H locs hP hS => ?_)
        refine lv_aload_n hx hb dX11_orderLine_83 rfl (lv_at hl 0 rfl) ?_
        refine gf_X11_126_M_0 X hP dX11_orderLine_84 ?_
        refine lv_iload hx hb dX11_orderLine_87 (lv_at hl 2 rfl) ?_
        refine lv_iconst (v := 4) hx hb dX11_orderLine_89 rfl ?_
        refine lv_iadd hx hb dX11_orderLine_90 ?_
        refine lv_iload hx hb dX11_orderLine_91 (lv_at hl 3 rfl) ?_
        refine lv_iadd hx hb dX11_orderLine_93 ?_
        refine lv_iconst (v := (-1)) hx hb dX11_orderLine_94 rfl ?_
        obtain ⟨hi95, h⟩ := gv_of h
        refine as_M_3 (v0 := (-1 : Int32)) X hP hS hi95 dX11_orderLine_95 (fun H locs hP hS => ?_)
        obtain ⟨v10, ev10⟩ : ∃ z : Int32, z = (x5 + 1) := ⟨_, rfl⟩
        have h := lt_at ev10 h
        refine lv_iinc (v := v10) (lv' := [(5, .int v10), (0, .ref (q 0)), (3, .int x3), (4, .int x4)]) hx hb dX11_orderLine_96 hl (k := 3) rfl (by rw [ev10]; rfl) (by decide) rfl (fun ls hl => ?_)
        refine lv_goto (tgt := 64) hx hb dX11_orderLine_99 rfl ?_
        exact ih x3 x4 v10 m_at m_fault m_orders m_value (upd (upd m_order (((x4 + (1 : Int32)) + x5)).toNatClampNeg (0 : Int32)) (((x4 + (4 : Int32)) + x5)).toNatClampNeg (-1 : Int32)) _ _ _ h hP hS (lv_sub hl [1, 2, 3, 0] rfl)
  unfold f_X11_orderLine at h
  refine lv_aload_n hx hb dX11_orderLine_0 rfl (lv_at hl 0 rfl) ?_
  obtain ⟨o1, hco1, h⟩ := bd_of h
  refine kV (rest := []) X dX11_orderLine_1 wd_5_114 mw_X11_look wd_5_116 wp_6_11 hP (k0 := 0) rfl rfl rfl hS (fun _ z => z) (c_X11_look hco1) rfl hl.1 rfl (Nat.le_of_ble_eq_true rfl) rfl rfl ⟨Nat.le_of_ble_eq_true rfl, Nat.le_of_ble_eq_true rfl⟩ (fun H locs hP _ _ hS => ?_)
  refine W.eq (g2 := F0 m 4 ls [.int o1.1]) rfl ?_
  refine lv_istore_n (lv' := [(1, .int o1.1), (0, .ref (q 0))]) hx hb dX11_orderLine_4 rfl hl (by decide) rfl (fun ls hl => ?_)
  refine lv_aload_n hx hb dX11_orderLine_5 rfl (lv_at hl 1 rfl) ?_
  obtain ⟨o2, hco2, h⟩ := bd_of h
  refine kV (rest := []) X dX11_orderLine_6 wd_5_122 mw_X11_wordEnd wd_5_124 wp_6_13 hP (k0 := 0) rfl rfl rfl hS (fun _ z => z) (c_X11_wordEnd hco2) rfl hl.1 rfl (Nat.le_of_ble_eq_true rfl) rfl rfl ⟨Nat.le_of_ble_eq_true rfl, Nat.le_of_ble_eq_true rfl⟩ (fun H locs hP _ _ hS => ?_)
  refine W.eq (g2 := F0 m 9 ls [.int o2]) rfl ?_
  refine lv_istore_n (lv' := [(2, .int o2), (1, .int o1.1), (0, .ref (q 0))]) hx hb dX11_orderLine_9 rfl hl (by decide) rfl (fun ls hl => ?_)
  refine lv_aload_n hx hb dX11_orderLine_10 rfl (lv_at hl 2 rfl) ?_
  refine lv_iload_n hx hb dX11_orderLine_11 rfl (lv_at hl 0 rfl) ?_
  obtain ⟨o3, hco3, h⟩ := bd_of h
  refine kV (rest := []) X dX11_orderLine_12 wd_5_164 mw_X11_kindHere wd_5_166 wp_7_4 hP (k0 := 0) rfl rfl rfl hS (fun _ z => z) (c_X11_kindHere hco3) rfl hl.1 rfl (Nat.le_of_ble_eq_true rfl) rfl rfl ⟨Nat.le_of_ble_eq_true rfl, Nat.le_of_ble_eq_true rfl⟩ (fun H locs hP _ _ hS => ?_)
  refine W.eq (g2 := F0 m 15 ls [.int o3]) rfl ?_
  refine lv_istore_n (lv' := [(3, .int o3), (2, .int o2), (1, .int o1.1), (0, .ref (q 0))]) hx hb dX11_orderLine_15 rfl hl (by decide) rfl (fun ls hl => ?_)
  refine lv_iload_n hx hb dX11_orderLine_16 rfl (lv_at hl 0 rfl) ?_
  refine lv_iconst (v := (-1)) hx hb dX11_orderLine_17 rfl ?_
  refine lv_icmp_eq (tgt := 30) hx hb dX11_orderLine_18 rfl (fun c18 => ?_) (fun c18 => ?_)
  · have h := br_p c18 h
    exact b30   o1.2 m_fault m_orders m_value m_order _ _ _ h hP hS (lv_sub hl [3] rfl)
  · have h := br_n c18 h
    refine lv_aload_n hx hb dX11_orderLine_21 rfl (lv_at hl 3 rfl) ?_
    refine gf_X11_123_M_0 X hP dX11_orderLine_22 ?_
    refine lv_bipush (v := 60) hx hb dX11_orderLine_25 rfl ?_
    refine lv_icmp_ne (tgt := 39) hx hb dX11_orderLine_27 rfl (fun c27 => ?_) (fun c27 => ?_)
    · have h := br_n c27 h
      refine lv_aload_n hx hb dX11_orderLine_39 rfl (lv_at hl 3 rfl) ?_
      refine lv_iload_n hx hb dX11_orderLine_40 rfl (lv_at hl 1 rfl) ?_
      refine pf_X11_24_M_0 (v0 := o2) X hP hS dX11_orderLine_41 (fun H locs hP hS => ?_)
      refine lv_bipush (v := 7) hx hb dX11_orderLine_44 rfl ?_
      refine lv_aload_n hx hb dX11_orderLine_46 rfl (lv_at hl 3 rfl) ?_
      refine gf_X11_123_M_0 X hP dX11_orderLine_47 ?_
      refine lv_imul hx hb dX11_orderLine_50 ?_
      refine lv_topi (fun v5 ev5 => ?_)
      have h := lt_at ev5 h
      refine lv_istore (lv' := [(4, .int v5), (3, .int o3), (2, .int o2), (1, .int o1.1), (0, .ref (q 0))]) hx hb dX11_orderLine_51 hl (by decide) rfl (fun ls hl => ?_)
      refine lv_aload_n hx hb dX11_orderLine_53 rfl (lv_at hl 4 rfl) ?_
      refine gf_X11_126_M_0 X hP dX11_orderLine_54 ?_
      refine lv_iload hx hb dX11_orderLine_57 (lv_at hl 0 rfl) ?_
      refine lv_iload_n hx hb dX11_orderLine_59 rfl (lv_at hl 1 rfl) ?_
      obtain ⟨hi60, h⟩ := gv_of h
      refine as_M_3 (v0 := o3) X hP hS hi60 dX11_orderLine_60 (fun H locs hP hS => ?_)
      refine lv_iconst (v := 0) hx hb dX11_orderLine_61 rfl ?_
      refine lv_istore (lv' := [(5, .int 0), (4, .int v5), (3, .int o3), (2, .int o2), (1, .int o1.1), (0, .ref (q 0))]) hx hb dX11_orderLine_62 hl (by decide) rfl (fun ls hl => ?_)
      exact l64  FU o3 v5 (0 : Int32) o2 m_fault m_orders m_value (upd m_order (v5).toNatClampNeg o3) _ _ _ h hP hS (lv_sub hl [5, 2, 1, 0] rfl)
    · have h := br_p c27 h
      exact b30   o1.2 m_fault m_orders m_value m_order _ _ _ h hP hS (lv_sub hl [3] rfl)
abbrev rm_X11_readsOrders : Room := { frames := 7, cells := 0, slots := 0, locals := 159 }
set_option maxRecDepth 100000 in
set_option maxHeartbeats 4000000 in
theorem c_X11_readsOrders {g : gT} {l : Launch} {A : Nat → Prop} {q : Nat → Nat} {m_thrown : Int32} {m_length : Int32} {m_at : Int32} {m_fault : Int32} {m_toldWords : Int32} {m_orders : Int32} {m_value : Int32} {m_hasUnit : Bool} {m_places : Int32} {m_clocks : Int32} {m_held : Bool} {m_x : Int64} {m_y : Int64} {m_z : Int64} {m_first : Int64} {m_second : Int64} {m_aside : Int32} {m_jobs : Int32} {m_jobsImage : Int32} {m_clocksImage : Int32} {m_heldImage : Bool} {m_hasImage : Bool} {m_tape : Nat → Int32} {m_read : Nat → Int32} {m_order : Nat → Int32} {m_width : Nat → Int32} {m_guard : Nat → Int32} {m_points : Nat → Int32} {m_stages : Nat → Int32} {m_gain : Nat → Int32} {m_undo : Nat → Int32} {m_near : Nat → Bool} {m_quarter : Nat → Int64} {m_ln : Nat → Int64} {m_angle : Nat → Int64} {m_shift : Nat → Int32} {m_digit : Nat → Int32} {m_refused : Nat → Int32} {m_job : Nat → Int32} {m_jobKept : Nat → Int32} {m_result : Nat → Int32} {m_resultKept : Nat → Int32} {m_trace : Nat → Int64} {m_traceKept : Nat → Int64} {m_jobImage : Nat → Int32} {m_resultImage : Nat → Int32} {m_traceImage : Nat → Int64}  {o : Int32 × Int32 × Int32 × Int32 × Int32 × (Nat → Int32)} (h : f_X11_readsOrders  m_length m_at m_fault m_orders m_value m_tape m_order = some o) : Std g l yX11_readsOrders (.code yX11_readsOrders cX11_readsOrders 1 (some .int) :: gw) rm_X11_readsOrders A [.ref (q 0)] (wM g q m_thrown m_length m_at m_fault m_toldWords m_orders m_value m_hasUnit m_places m_clocks m_held m_x m_y m_z m_first m_second m_aside m_jobs m_jobsImage m_clocksImage m_heldImage m_hasImage m_tape m_read m_order m_width m_guard m_points m_stages m_gain m_undo m_near m_quarter m_ln m_angle m_shift m_digit m_refused m_job m_jobKept m_result m_resultKept m_trace m_traceKept m_jobImage m_resultImage m_traceImage) (wM g q m_thrown m_length o.2.1 o.2.2.1 m_toldWords o.2.2.2.1 o.2.2.2.2.1 m_hasUnit m_places m_clocks m_held m_x m_y m_z m_first m_second m_aside m_jobs m_jobsImage m_clocksImage m_heldImage m_hasImage m_tape m_read o.2.2.2.2.2 m_width m_guard m_points m_stages m_gain m_undo m_near m_quarter m_ln m_angle m_shift m_digit m_refused m_job m_jobKept m_result m_resultKept m_trace m_traceKept m_jobImage m_resultImage m_traceImage) (some (.int o.1)) := by
  refine std_i (own := RX11) (by decide +kernel) rfl (Nat.le_of_ble_eq_true rfl) ?_
  intro p e s m args below meth c Q X ret H locs hP hS ls hl
  have hx := X.1
  have hb := X.2.1
  have hl : lv_has ls 1 [(0, .ref (q 0))] := hl
  have ret : ∀ {H : Heap} {locs : List Loc} {pc : Nat} {ls : Array Slot} {v : Int32} {m_at : Int32} {m_fault : Int32} {m_orders : Int32} {m_value : Int32} {m_order : Nat → Int32}, some (v, m_at, m_fault, m_orders, m_value, m_order) = some o → WP g A (wM g q m_thrown m_length m_at m_fault m_toldWords m_orders m_value m_hasUnit m_places m_clocks m_held m_x m_y m_z m_first m_second m_aside m_jobs m_jobsImage m_clocksImage m_heldImage m_hasImage m_tape m_read m_order m_width m_guard m_points m_stages m_gain m_undo m_near m_quarter m_ln m_angle m_shift m_digit m_refused m_job m_jobKept m_result m_resultKept m_trace m_traceKept m_jobImage m_resultImage m_traceImage) H → va_S A s.heap H locs → decode cX11_readsOrders pc = .ok (.ireturn, 1) → W p l e rm_X11_readsOrders s m args below meth c H locs 0 0 Q (F0 m pc ls [.int v]) := by
    intro H locs pc ls v m_at m_fault m_orders m_value m_order h hP hS hd
    cases h
    exact ret hP hS hd
  have b77 : ∀ (m_at : Int32) (m_fault : Int32) (m_orders : Int32) (m_value : Int32) (m_order : Nat → Int32) (H : Heap) (locs : List Loc) (ls : Array Slot), f_X11_readsOrders_b77  m_length m_tape  m_at m_fault m_orders m_value m_order = some o → WP g A (wM g q m_thrown m_length m_at m_fault m_toldWords m_orders m_value m_hasUnit m_places m_clocks m_held m_x m_y m_z m_first m_second m_aside m_jobs m_jobsImage m_clocksImage m_heldImage m_hasImage m_tape m_read m_order m_width m_guard m_points m_stages m_gain m_undo m_near m_quarter m_ln m_angle m_shift m_digit m_refused m_job m_jobKept m_result m_resultKept m_trace m_traceKept m_jobImage m_resultImage m_traceImage) H → va_S A s.heap H locs → lv_has ls 1 [(0, .ref (q 0))] → W p l e rm_X11_readsOrders s m args below meth c H locs 0 0 Q (F0 m 77 ls []) := by
    intro  m_at m_fault m_orders m_value m_order H locs ls h hP hS hl
    unfold f_X11_readsOrders_b77 at h
    refine lv_aload_n hx hb dX11_readsOrders_77 rfl (lv_at hl 0 rfl) ?_
    refine gf_X11_31_M_0 X hP dX11_readsOrders_78 ?_
    exact ret h hP hS dX11_readsOrders_81
  have b53 : ∀ (m_at : Int32) (m_fault : Int32) (m_orders : Int32) (m_value : Int32) (m_order : Nat → Int32) (H : Heap) (locs : List Loc) (ls : Array Slot), f_X11_readsOrders_b53  m_length m_tape  m_at m_fault m_orders m_value m_order = some o → WP g A (wM g q m_thrown m_length m_at m_fault m_toldWords m_orders m_value m_hasUnit m_places m_clocks m_held m_x m_y m_z m_first m_second m_aside m_jobs m_jobsImage m_clocksImage m_heldImage m_hasImage m_tape m_read m_order m_width m_guard m_points m_stages m_gain m_undo m_near m_quarter m_ln m_angle m_shift m_digit m_refused m_job m_jobKept m_result m_resultKept m_trace m_traceKept m_jobImage m_resultImage m_traceImage) H → va_S A s.heap H locs → lv_has ls 1 [(0, .ref (q 0))] → W p l e rm_X11_readsOrders s m args below meth c H locs 0 0 Q (F0 m 53 ls []) := by
    intro  m_at m_fault m_orders m_value m_order H locs ls h hP hS hl
    unfold f_X11_readsOrders_b53 at h
    refine lv_aload_n hx hb dX11_readsOrders_53 rfl (lv_at hl 0 rfl) ?_
    refine gf_X11_31_M_0 X hP dX11_readsOrders_54 ?_
    refine lv_iconst (v := (-1)) hx hb dX11_readsOrders_57 rfl ?_
    refine lv_icmp_ne (tgt := 77) hx hb dX11_readsOrders_58 rfl (fun c58 => ?_) (fun c58 => ?_)
    · have h := br_n c58 h
      exact b77   m_at m_fault m_orders m_value m_order _ _ _ h hP hS (lv_sub hl [0] rfl)
    · have h := br_p c58 h
      refine lv_aload_n hx hb dX11_readsOrders_61 rfl (lv_at hl 0 rfl) ?_
      obtain ⟨o2, hco2, h⟩ := bd_of h
      refine kV (rest := []) X dX11_readsOrders_62 wd_5_114 mw_X11_look wd_5_116 wp_6_11 hP (k0 := 0) rfl rfl rfl hS (fun _ z => z) (c_X11_look hco2) rfl hl.1 rfl (Nat.le_of_ble_eq_true rfl) rfl rfl ⟨Nat.le_of_ble_eq_true rfl, Nat.le_of_ble_eq_true rfl⟩ (fun H locs hP _ _ hS => ?_)
      refine W.eq (g2 := F0 m 65 ls [.int o2.1]) rfl ?_
      refine lv_iconst (v := (-1)) hx hb dX11_readsOrders_65 rfl ?_
      refine lv_icmp_eq (tgt := 77) hx hb dX11_readsOrders_66 rfl (fun c66 => ?_) (fun c66 => ?_)
      · have h := br_p c66 h
        exact b77   o2.2 m_fault m_orders m_value m_order _ _ _ h hP hS (lv_sub hl [0] rfl)
      · have h := br_n c66 h
        refine lv_aload_n hx hb dX11_readsOrders_69 rfl (lv_at hl 0 rfl) ?_
        refine lv_aload_n hx hb dX11_readsOrders_70 rfl (lv_at hl 0 rfl) ?_
        refine gf_X11_24_M_0 X hP dX11_readsOrders_71 ?_
        obtain ⟨o3, hco3, h⟩ := bd_of h
        refine kV (rest := []) X dX11_readsOrders_74 wd_5_142 mw_X11_fails wd_5_144 wp_7_0 hP (k0 := 0) rfl rfl rfl hS (fun _ z => z) (c_X11_fails hco3) rfl hl.1 rfl (Nat.le_of_ble_eq_true rfl) rfl rfl ⟨Nat.le_of_ble_eq_true rfl, Nat.le_of_ble_eq_true rfl⟩ (fun H locs hP _ _ hS => ?_)
        refine W.eq (g2 := F0 m 77 ls []) rfl ?_
        exact b77   o2.2 o3 m_orders m_value m_order _ _ _ h hP hS (lv_sub hl [0] rfl)
  have l19 : ∀ (n : Nat), ∀ (m_at : Int32) (m_fault : Int32) (m_orders : Int32) (m_value : Int32) (m_order : Nat → Int32) (H : Heap) (locs : List Loc) (ls : Array Slot), f_X11_readsOrders_l19  m_length m_tape  n m_at m_fault m_orders m_value m_order = some o → WP g A (wM g q m_thrown m_length m_at m_fault m_toldWords m_orders m_value m_hasUnit m_places m_clocks m_held m_x m_y m_z m_first m_second m_aside m_jobs m_jobsImage m_clocksImage m_heldImage m_hasImage m_tape m_read m_order m_width m_guard m_points m_stages m_gain m_undo m_near m_quarter m_ln m_angle m_shift m_digit m_refused m_job m_jobKept m_result m_resultKept m_trace m_traceKept m_jobImage m_resultImage m_traceImage) H → va_S A s.heap H locs → lv_has ls 1 [(0, .ref (q 0))] → W p l e rm_X11_readsOrders s m args below meth c H locs 0 0 Q (F0 m 19 ls []) := by
    intro  n
    induction n with
    | zero =>
      intro m_at m_fault m_orders m_value m_order H locs ls h
      exact nz_of h
    | succ n ih =>
      intro m_at m_fault m_orders m_value m_order H locs ls h hP hS hl
      rw [f_X11_readsOrders_l19] at h
      refine lv_aload_n hx hb dX11_readsOrders_19 rfl (lv_at hl 0 rfl) ?_
      refine gf_X11_31_M_0 X hP dX11_readsOrders_20 ?_
      refine lv_iconst (v := (-1)) hx hb dX11_readsOrders_23 rfl ?_
      refine lv_icmp_ne (tgt := 53) hx hb dX11_readsOrders_24 rfl (fun c24 => ?_) (fun c24 => ?_)
      · have h := br_n c24 h
        exact b53   m_at m_fault m_orders m_value m_order _ _ _ h hP hS (lv_sub hl [0] rfl)
      · have h := br_p c24 h
        refine lv_aload_n hx hb dX11_readsOrders_27 rfl (lv_at hl 0 rfl) ?_
        obtain ⟨o4, hco4, h⟩ := bd_of h
        refine kV (rest := []) X dX11_readsOrders_28 wd_5_114 mw_X11_look wd_5_116 wp_6_11 hP (k0 := 0) rfl rfl rfl hS (fun _ z => z) (c_X11_look hco4) rfl hl.1 rfl (Nat.le_of_ble_eq_true rfl) rfl rfl ⟨Nat.le_of_ble_eq_true rfl, Nat.le_of_ble_eq_true rfl⟩ (fun H locs hP _ _ hS => ?_)
        refine W.eq (g2 := F0 m 31 ls [.int o4.1]) rfl ?_
        refine lv_bipush (v := 59) hx hb dX11_readsOrders_31 rfl ?_
        refine lv_icmp_ne (tgt := 53) hx hb dX11_readsOrders_33 rfl (fun c33 => ?_) (fun c33 => ?_)
        · have h := br_n c33 h
          exact b53   o4.2 m_fault m_orders m_value m_order _ _ _ h hP hS (lv_sub hl [0] rfl)
        · have h := br_p c33 h
          refine lv_aload_n hx hb dX11_readsOrders_36 rfl (lv_at hl 0 rfl) ?_
          refine lv_dup hx hb dX11_readsOrders_37 rfl ?_
          refine gf_X11_24_M_0 X hP dX11_readsOrders_38 ?_
          refine lv_iconst (v := 1) hx hb dX11_readsOrders_41 rfl ?_
          refine lv_iadd hx hb dX11_readsOrders_42 ?_
          refine lv_topi (fun v5 ev5 => ?_)
          have h := lt_at ev5 h
          refine pf_X11_24_M_0 (v0 := v5) X hP hS dX11_readsOrders_43 (fun H locs hP hS => ?_)
          refine lv_aload_n hx hb dX11_readsOrders_46 rfl (lv_at hl 0 rfl) ?_
          obtain ⟨o6, hco6, h⟩ := bd_of h
          refine kV (rest := []) X dX11_readsOrders_47 wd_5_160 mw_X11_orderLine wd_5_162 wp_7_3 hP (k0 := 0) rfl rfl rfl hS (fun _ z => z) (c_X11_orderLine hco6) rfl hl.1 rfl (Nat.le_of_ble_eq_true rfl) rfl rfl ⟨Nat.le_of_ble_eq_true rfl, Nat.le_of_ble_eq_true rfl⟩ (fun H locs hP _ _ hS => ?_)
          refine W.eq (g2 := F0 m 50 ls []) rfl ?_
          refine lv_goto (tgt := 19) hx hb dX11_readsOrders_50 rfl ?_
          exact ih o6.1 o6.2.1 o6.2.2.1 o6.2.2.2.1 o6.2.2.2.2 _ _ _ h hP hS (lv_sub hl [0] rfl)
  unfold f_X11_readsOrders at h
  refine lv_aload_n hx hb dX11_readsOrders_0 rfl (lv_at hl 0 rfl) ?_
  refine lv_iconst (v := 0) hx hb dX11_readsOrders_1 rfl ?_
  refine pf_X11_24_M_0 (v0 := (0 : Int32)) X hP hS dX11_readsOrders_2 (fun H locs hP hS => ?_)
  refine lv_aload_n hx hb dX11_readsOrders_5 rfl (lv_at hl 0 rfl) ?_
  refine lv_iconst (v := (-1)) hx hb dX11_readsOrders_6 rfl ?_
  refine pf_X11_31_M_0 (v0 := (-1 : Int32)) X hP hS dX11_readsOrders_7 (fun H locs hP hS => ?_)
  refine lv_aload_n hx hb dX11_readsOrders_10 rfl (lv_at hl 0 rfl) ?_
  refine lv_iconst (v := 0) hx hb dX11_readsOrders_11 rfl ?_
  refine pf_X11_123_M_0 (v0 := (0 : Int32)) X hP hS dX11_readsOrders_12 (fun H locs hP hS => ?_)
  refine lv_aload_n hx hb dX11_readsOrders_15 rfl (lv_at hl 0 rfl) ?_
  obtain ⟨o1, hco1, h⟩ := bd_of h
  refine kV (rest := []) X dX11_readsOrders_16 wd_5_160 mw_X11_orderLine wd_5_162 wp_7_3 hP (k0 := 0) rfl rfl rfl hS (fun _ z => z) (c_X11_orderLine hco1) rfl hl.1 rfl (Nat.le_of_ble_eq_true rfl) rfl rfl ⟨Nat.le_of_ble_eq_true rfl, Nat.le_of_ble_eq_true rfl⟩ (fun H locs hP _ _ hS => ?_)
  refine W.eq (g2 := F0 m 19 ls []) rfl ?_
  exact l19  FU o1.1 o1.2.1 o1.2.2.1 o1.2.2.2.1 o1.2.2.2.2 _ _ _ h hP hS (lv_sub hl [0] rfl)
abbrev rm_X11_fault : Room := { frames := 8, cells := 0, slots := 0, locals := 179 }
set_option maxRecDepth 100000 in
set_option maxHeartbeats 4000000 in
theorem c_X11_fault {g : gT} {l : Launch} {A : Nat → Prop} {q : Nat → Nat} {m_thrown : Int32} {m_length : Int32} {m_at : Int32} {m_fault : Int32} {m_toldWords : Int32} {m_orders : Int32} {m_value : Int32} {m_hasUnit : Bool} {m_places : Int32} {m_clocks : Int32} {m_held : Bool} {m_x : Int64} {m_y : Int64} {m_z : Int64} {m_first : Int64} {m_second : Int64} {m_aside : Int32} {m_jobs : Int32} {m_jobsImage : Int32} {m_clocksImage : Int32} {m_heldImage : Bool} {m_hasImage : Bool} {m_tape : Nat → Int32} {m_read : Nat → Int32} {m_order : Nat → Int32} {m_width : Nat → Int32} {m_guard : Nat → Int32} {m_points : Nat → Int32} {m_stages : Nat → Int32} {m_gain : Nat → Int32} {m_undo : Nat → Int32} {m_near : Nat → Bool} {m_quarter : Nat → Int64} {m_ln : Nat → Int64} {m_angle : Nat → Int64} {m_shift : Nat → Int32} {m_digit : Nat → Int32} {m_refused : Nat → Int32} {m_job : Nat → Int32} {m_jobKept : Nat → Int32} {m_result : Nat → Int32} {m_resultKept : Nat → Int32} {m_trace : Nat → Int64} {m_traceKept : Nat → Int64} {m_jobImage : Nat → Int32} {m_resultImage : Nat → Int32} {m_traceImage : Nat → Int64} {p0 : Int32} {o : Int32 × Int32 × Int32 × Int32 × Int32 × Int32 × Int32 × (Nat → Int32) × (Nat → Int32)} (h : f_X11_fault p0 m_thrown m_length m_at m_fault m_toldWords m_orders m_value m_tape m_read m_order = some o) : Std g l yX11_fault (.code yX11_fault cX11_fault 2 (some .int) :: gw) rm_X11_fault A [.ref (q 0), .int p0] (wM g q m_thrown m_length m_at m_fault m_toldWords m_orders m_value m_hasUnit m_places m_clocks m_held m_x m_y m_z m_first m_second m_aside m_jobs m_jobsImage m_clocksImage m_heldImage m_hasImage m_tape m_read m_order m_width m_guard m_points m_stages m_gain m_undo m_near m_quarter m_ln m_angle m_shift m_digit m_refused m_job m_jobKept m_result m_resultKept m_trace m_traceKept m_jobImage m_resultImage m_traceImage) (wM g q o.2.1 m_length o.2.2.1 o.2.2.2.1 o.2.2.2.2.1 o.2.2.2.2.2.1 o.2.2.2.2.2.2.1 m_hasUnit m_places m_clocks m_held m_x m_y m_z m_first m_second m_aside m_jobs m_jobsImage m_clocksImage m_heldImage m_hasImage m_tape o.2.2.2.2.2.2.2.1 o.2.2.2.2.2.2.2.2 m_width m_guard m_points m_stages m_gain m_undo m_near m_quarter m_ln m_angle m_shift m_digit m_refused m_job m_jobKept m_result m_resultKept m_trace m_traceKept m_jobImage m_resultImage m_traceImage) (some (.int o.1)) := by
  refine std_i (own := RX11) (by decide +kernel) rfl (Nat.le_of_ble_eq_true rfl) ?_
  intro p e s m args below meth c Q X ret H locs hP hS ls hl
  have hx := X.1
  have hb := X.2.1
  have hl : lv_has ls 2 [(0, .ref (q 0)), (1, .int p0)] := hl
  have ret : ∀ {H : Heap} {locs : List Loc} {pc : Nat} {ls : Array Slot} {v : Int32} {m_thrown : Int32} {m_at : Int32} {m_fault : Int32} {m_toldWords : Int32} {m_orders : Int32} {m_value : Int32} {m_read : Nat → Int32} {m_order : Nat → Int32}, some (v, m_thrown, m_at, m_fault, m_toldWords, m_orders, m_value, m_read, m_order) = some o → WP g A (wM g q m_thrown m_length m_at m_fault m_toldWords m_orders m_value m_hasUnit m_places m_clocks m_held m_x m_y m_z m_first m_second m_aside m_jobs m_jobsImage m_clocksImage m_heldImage m_hasImage m_tape m_read m_order m_width m_guard m_points m_stages m_gain m_undo m_near m_quarter m_ln m_angle m_shift m_digit m_refused m_job m_jobKept m_result m_resultKept m_trace m_traceKept m_jobImage m_resultImage m_traceImage) H → va_S A s.heap H locs → decode cX11_fault pc = .ok (.ireturn, 1) → W p l e rm_X11_fault s m args below meth c H locs 0 0 Q (F0 m pc ls [.int v]) := by
    intro H locs pc ls v m_thrown m_at m_fault m_toldWords m_orders m_value m_read m_order h hP hS hd
    cases h
    exact ret hP hS hd
  unfold f_X11_fault at h
  refine lv_aload_n hx hb dX11_fault_0 rfl (lv_at hl 0 rfl) ?_
  refine lv_iconst (v := 0) hx hb dX11_fault_1 rfl ?_
  refine pf_X11_5_M_0 (v0 := (0 : Int32)) X hP hS dX11_fault_2 (fun H locs hP hS => ?_)
  refine lv_iload_n hx hb dX11_fault_5 rfl (lv_at hl 1 rfl) ?_
  refine lv_if_ne (tgt := 16) hx hb dX11_fault_6 rfl (fun c6 => ?_) (fun c6 => ?_)
  · have h := br_n c6 h
    refine lv_iload_n hx hb dX11_fault_16 rfl (lv_at hl 1 rfl) ?_
    refine lv_iconst (v := 1) hx hb dX11_fault_17 rfl ?_
    refine lv_icmp_ne (tgt := 28) hx hb dX11_fault_18 rfl (fun c18 => ?_) (fun c18 => ?_)
    · have h := br_n c18 h
      refine lv_bipush (v := (-2)) hx hb dX11_fault_28 rfl ?_
      exact ret h hP hS dX11_fault_30
    · have h := br_p c18 h
      refine lv_aload_n hx hb dX11_fault_21 rfl (lv_at hl 0 rfl) ?_
      obtain ⟨o1, hco1, h⟩ := bd_of h
      refine kV (rest := []) X dX11_fault_22 wd_5_156 mw_X11_readsOrders wd_5_158 wp_7_2 hP (k0 := 0) rfl rfl rfl hS (fun _ z => z) (c_X11_readsOrders hco1) rfl hl.1 rfl (Nat.le_of_ble_eq_true rfl) rfl rfl ⟨Nat.le_of_ble_eq_true rfl, Nat.le_of_ble_eq_true rfl⟩ (fun H locs hP _ _ hS => ?_)
      refine W.eq (g2 := F0 m 25 ls [.int o1.1]) rfl ?_
      refine lv_goto (tgt := 30) hx hb dX11_fault_25 rfl ?_
      exact ret h hP hS dX11_fault_30
  · have h := br_p c6 h
    refine lv_aload_n hx hb dX11_fault_9 rfl (lv_at hl 0 rfl) ?_
    obtain ⟨o2, hco2, h⟩ := bd_of h
    refine kV (rest := []) X dX11_fault_10 wd_5_106 mw_X11_readsUnit wd_5_108 wp_6_9 hP (k0 := 0) rfl rfl rfl hS (fun _ z => z) (c_X11_readsUnit hco2) rfl hl.1 rfl (Nat.le_of_ble_eq_true rfl) rfl rfl ⟨Nat.le_of_ble_eq_true rfl, Nat.le_of_ble_eq_true rfl⟩ (fun H locs hP _ _ hS => ?_)
    refine W.eq (g2 := F0 m 13 ls [.int o2.1]) rfl ?_
    refine lv_goto (tgt := 30) hx hb dX11_fault_13 rfl ?_
    exact ret h hP hS dX11_fault_30
abbrev rm_X11_terms : Room := { frames := 0, cells := 0, slots := 0, locals := 0 }
set_option maxRecDepth 100000 in
set_option maxHeartbeats 4000000 in
theorem c_X11_terms {g : gT} {l : Launch} {A : Nat → Prop} {w : va_W} {p0 : Int32} {p1 : Bool} {o : Int64} (h : f_X11_terms p0 p1  = some o) : Std g l yX11_terms (.code yX11_terms cX11_terms 7 (some .long) :: gw) rm_X11_terms A [.int p0, .int (bI p1)] w w (some (.long o)) := by
  refine std_l (own := RX11) (by decide +kernel) rfl (Nat.le_of_ble_eq_true rfl) ?_
  intro p e s m args below meth c Q X ret H locs hP hS ls hl
  have hx := X.1
  have hb := X.2.1
  have hl : lv_has ls 7 [(0, .int p0), (1, .int (bI p1))] := hl
  have ret : ∀ {H : Heap} {locs : List Loc} {pc : Nat} {ls : Array Slot} {v : Int64} , some (v) = some o → WP g A w H → va_S A s.heap H locs → decode cX11_terms pc = .ok (.lreturn, 1) → W p l e rm_X11_terms s m args below meth c H locs 0 0 Q (F0 m pc ls [.long v]) := by
    intro H locs pc ls v h hP hS hd
    cases h
    exact ret hP hS hd
  have b61 : ∀ (k5 : Int32 → Bool → Int64 → Int32 → Option (Int64)) (hk5 : ∀ (x0 : Int32) (x1 : Bool) (x2 : Int64) (x4 : Int32) (H : Heap) (locs : List Loc) (ls : Array Slot), k5 x0 x1 x2 x4 = some o → WP g A w H → va_S A s.heap H locs → lv_has ls 7 [(0, .int x0), (1, .int (bI x1)), (2, .long x2), (4, .int x4)] → W p l e rm_X11_terms s m args below meth c H locs 0 0 Q (F0 m 5 ls [])) , ∀ (x0 : Int32) (x1 : Bool) (x4 : Int32) (t0 : Int64) (t1 : Int64) (H : Heap) (locs : List Loc) (ls : Array Slot), f_X11_terms_b61   k5 x0 x1 x4 t0 t1 = some o → WP g A w H → va_S A s.heap H locs → lv_has ls 7 [(0, .int x0), (1, .int (bI x1)), (4, .int x4)] → W p l e rm_X11_terms s m args below meth c H locs 0 0 Q (F0 m 61 ls [.long t1, .long t0]) := by
    intro k5 hk5 x0 x1 x4 t0 t1 H locs ls h hP hS hl
    unfold f_X11_terms_b61 at h
    refine lv_ladd hx hb dX11_terms_61 ?_
    refine lv_topl (fun v2 ev2 => ?_)
    have h := lt_at ev2 h
    refine lv_lstore_n (lv' := [(2, .long v2), (0, .int x0), (1, .int (bI x1)), (4, .int x4)]) hx hb dX11_terms_62 rfl hl (by decide) rfl (fun ls hl => ?_)
    obtain ⟨v3, ev3⟩ : ∃ z : Int32, z = (x4 + 1) := ⟨_, rfl⟩
    have h := lt_at ev3 h
    refine lv_iinc (v := v3) (lv' := [(4, .int v3), (2, .long v2), (0, .int x0), (1, .int (bI x1))]) hx hb dX11_terms_63 hl (k := 3) rfl (by rw [ev3]; rfl) (by decide) rfl (fun ls hl => ?_)
    refine lv_goto (tgt := 5) hx hb dX11_terms_66 rfl ?_
    exact hk5 x0 x1 v2 v3 _ _ _ h hP hS (lv_sub hl [2, 3, 1, 0] rfl)
  have b53 : ∀ (k5 : Int32 → Bool → Int64 → Int32 → Option (Int64)) (hk5 : ∀ (x0 : Int32) (x1 : Bool) (x2 : Int64) (x4 : Int32) (H : Heap) (locs : List Loc) (ls : Array Slot), k5 x0 x1 x2 x4 = some o → WP g A w H → va_S A s.heap H locs → lv_has ls 7 [(0, .int x0), (1, .int (bI x1)), (2, .long x2), (4, .int x4)] → W p l e rm_X11_terms s m args below meth c H locs 0 0 Q (F0 m 5 ls [])) , ∀ (x0 : Int32) (x1 : Bool) (x4 : Int32) (x5 : Int64) (t0 : Int64) (H : Heap) (locs : List Loc) (ls : Array Slot), f_X11_terms_b53   k5 x0 x1 x4 x5 t0 = some o → WP g A w H → va_S A s.heap H locs → lv_has ls 7 [(0, .int x0), (1, .int (bI x1)), (4, .int x4), (5, .long x5)] → W p l e rm_X11_terms s m args below meth c H locs 0 0 Q (F0 m 53 ls [.long t0]) := by
    intro k5 hk5 x0 x1 x4 x5 t0 H locs ls h hP hS hl
    unfold f_X11_terms_b53 at h
    refine lv_lload hx hb dX11_terms_53 (lv_at hl 3 rfl) ?_
    refine lv_goto (tgt := 61) hx hb dX11_terms_55 rfl ?_
    exact b61 k5 hk5  x0 x1 x4 t0 x5 _ _ _ h hP hS (lv_sub hl [0, 1, 2] rfl)
  have l5 : ∀ (n : Nat), ∀ (x0 : Int32) (x1 : Bool) (x2 : Int64) (x4 : Int32) (H : Heap) (locs : List Loc) (ls : Array Slot), f_X11_terms_l5    n x0 x1 x2 x4 = some o → WP g A w H → va_S A s.heap H locs → lv_has ls 7 [(0, .int x0), (1, .int (bI x1)), (2, .long x2), (4, .int x4)] → W p l e rm_X11_terms s m args below meth c H locs 0 0 Q (F0 m 5 ls []) := by
    intro  n
    induction n with
    | zero =>
      intro x0 x1 x2 x4 H locs ls h
      exact nz_of h
    | succ n ih =>
      intro x0 x1 x2 x4 H locs ls h hP hS hl
      rw [f_X11_terms_l5] at h
      refine lv_iconst (v := 2) hx hb dX11_terms_5 rfl ?_
      refine lv_iload hx hb dX11_terms_6 (lv_at hl 3 rfl) ?_
      refine lv_imul hx hb dX11_terms_8 ?_
      refine lv_iconst (v := 1) hx hb dX11_terms_9 rfl ?_
      refine lv_iadd hx hb dX11_terms_10 ?_
      refine lv_iload_n hx hb dX11_terms_11 rfl (lv_at hl 0 rfl) ?_
      refine lv_imul hx hb dX11_terms_12 ?_
      refine lv_bipush (v := 56) hx hb dX11_terms_13 rfl ?_
      refine lv_icmp_gt (tgt := 69) hx hb dX11_terms_15 rfl (fun c15 => ?_) (fun c15 => ?_)
      · have h := br_p c15 h
        refine lv_lload_n hx hb dX11_terms_69 rfl (lv_at hl 2 rfl) ?_
        exact ret h hP hS dX11_terms_70
      · have h := br_n c15 h
        refine lv_lconst (v := 1) hx hb dX11_terms_18 rfl ?_
        refine lv_bipush (v := 56) hx hb dX11_terms_19 rfl ?_
        refine lv_iconst (v := 2) hx hb dX11_terms_21 rfl ?_
        refine lv_iload hx hb dX11_terms_22 (lv_at hl 3 rfl) ?_
        refine lv_imul hx hb dX11_terms_24 ?_
        refine lv_iconst (v := 1) hx hb dX11_terms_25 rfl ?_
        refine lv_iadd hx hb dX11_terms_26 ?_
        refine lv_iload_n hx hb dX11_terms_27 rfl (lv_at hl 0 rfl) ?_
        refine lv_imul hx hb dX11_terms_28 ?_
        refine lv_isub hx hb dX11_terms_29 ?_
        refine lv_lshl hx hb dX11_terms_30 rfl ?_
        refine lv_iconst (v := 2) hx hb dX11_terms_31 rfl ?_
        refine lv_iload hx hb dX11_terms_32 (lv_at hl 3 rfl) ?_
        refine lv_imul hx hb dX11_terms_34 ?_
        refine lv_iconst (v := 1) hx hb dX11_terms_35 rfl ?_
        refine lv_iadd hx hb dX11_terms_36 ?_
        refine lv_i2l hx hb dX11_terms_37 rfl ?_
        obtain ⟨cz38, h⟩ := gz_of h
        refine lv_ldiv hx hb dX11_terms_38 cz38 ?_
        refine lv_topl (fun v1 ev1 => ?_)
        have h := lt_at ev1 h
        refine lv_lstore (lv' := [(5, .long v1), (0, .int x0), (1, .int (bI x1)), (2, .long x2), (4, .int x4)]) hx hb dX11_terms_39 hl (by decide) rfl (fun ls hl => ?_)
        refine lv_lload_n hx hb dX11_terms_41 rfl (lv_at hl 3 rfl) ?_
        refine lv_iload_n hx hb dX11_terms_42 rfl (lv_at hl 2 rfl) ?_
        refine rb_ne (tgt := 53) hx hb dX11_terms_43 rfl (fun c43 => ?_) (fun c43 => ?_)
        · have h := br_p c43 h
          exact b53 (f_X11_terms_l5    n) ih  x0 x1 x4 v1 x2 _ _ _ h hP hS (lv_sub hl [1, 2, 4, 0] rfl)
        · have h := br_n c43 h
          refine lv_iload hx hb dX11_terms_46 (lv_at hl 4 rfl) ?_
          refine lv_iconst (v := 2) hx hb dX11_terms_48 rfl ?_
          obtain ⟨cz49, h⟩ := gz_of h
          refine lv_irem hx hb dX11_terms_49 cz49 ?_
          refine jx1 h (P := fun (v4 : Int64) => ∀ ls : Array Slot, lv_has ls 7 [(0, .int x0), (1, .int (bI x1)), (4, .int x4)] → W p l e rm_X11_terms s m args below meth c H locs 0 0 Q (F0 m 61 ls [.long v4, .long x2])) ?_ ?_
          · intro v4 h ls hl
            refine lv_ladd hx hb dX11_terms_61 ?_
            refine lv_topl (fun v5 ev5 => ?_)
            have h := lt_at ev5 h
            refine lv_lstore_n (lv' := [(2, .long v5), (0, .int x0), (1, .int (bI x1)), (4, .int x4)]) hx hb dX11_terms_62 rfl hl (by decide) rfl (fun ls hl => ?_)
            obtain ⟨v6, ev6⟩ : ∃ z : Int32, z = (x4 + 1) := ⟨_, rfl⟩
            have h := lt_at ev6 h
            refine lv_iinc (v := v6) (lv' := [(4, .int v6), (2, .long v5), (0, .int x0), (1, .int (bI x1))]) hx hb dX11_terms_63 hl (k := 3) rfl (by rw [ev6]; rfl) (by decide) rfl (fun ls hl => ?_)
            refine lv_goto (tgt := 5) hx hb dX11_terms_66 rfl ?_
            exact ih x0 x1 v5 v6 _ _ _ h hP hS (lv_sub hl [2, 3, 1, 0] rfl)
          · intro J h
            refine lv_if_ne (tgt := 58) hx hb dX11_terms_50 rfl (fun c50 => ?_) (fun c50 => ?_)
            · refine lv_lload hx hb dX11_terms_58 (lv_at hl 0 rfl) ?_
              refine lv_lneg hx hb dX11_terms_60 ?_
              exact J _ (lt_in c50 h) ls (lv_sub hl [1, 2, 4] rfl)
            · refine lv_lload hx hb dX11_terms_53 (lv_at hl 0 rfl) ?_
              refine lv_goto (tgt := 61) hx hb dX11_terms_55 rfl ?_
              exact J _ (lt_ip c50 h) ls (lv_sub hl [1, 2, 4] rfl)
  unfold f_X11_terms at h
  refine lv_lconst (v := 0) hx hb dX11_terms_0 rfl ?_
  refine lv_lstore_n (lv' := [(2, .long (0 : Int64)), (0, .int p0), (1, .int (bI p1))]) hx hb dX11_terms_1 rfl hl (by decide) rfl (fun ls hl => ?_)
  refine lv_iconst (v := 0) hx hb dX11_terms_2 rfl ?_
  refine lv_istore (lv' := [(4, .int 0), (2, .long (0 : Int64)), (0, .int p0), (1, .int (bI p1))]) hx hb dX11_terms_3 hl (by decide) rfl (fun ls hl => ?_)
  exact l5  FU p0 p1 (0 : Int64) (0 : Int32) _ _ _ h hP hS (lv_sub hl [2, 3, 1, 0] rfl)
abbrev rm_X11_fifth : Room := { frames := 0, cells := 0, slots := 0, locals := 0 }
set_option maxRecDepth 100000 in
set_option maxHeartbeats 4000000 in
theorem c_X11_fifth {g : gT} {l : Launch} {A : Nat → Prop} {w : va_W} {p0 : Int64} {p1 : Bool} {o : Int64} (h : f_X11_fifth p0 p1  = some o) : Std g l yX11_fifth (.code yX11_fifth cX11_fifth 10 (some .long) :: gw) rm_X11_fifth A [.long p0, .int (bI p1)] w w (some (.long o)) := by
  refine std_l (own := RX11) (by decide +kernel) rfl (Nat.le_of_ble_eq_true rfl) ?_
  intro p e s m args below meth c Q X ret H locs hP hS ls hl
  have hx := X.1
  have hb := X.2.1
  have hl : lv_has ls 10 [(0, .long p0), (2, .int (bI p1))] := hl
  have ret : ∀ {H : Heap} {locs : List Loc} {pc : Nat} {ls : Array Slot} {v : Int64} , some (v) = some o → WP g A w H → va_S A s.heap H locs → decode cX11_fifth pc = .ok (.lreturn, 1) → W p l e rm_X11_fifth s m args below meth c H locs 0 0 Q (F0 m pc ls [.long v]) := by
    intro H locs pc ls v h hP hS hd
    cases h
    exact ret hP hS hd
  have b51 : ∀ (k12 : Int64 → Bool → Int64 → Int64 → Int32 → Option (Int64)) (hk12 : ∀ (x0 : Int64) (x2 : Bool) (x3 : Int64) (x5 : Int64) (x7 : Int32) (H : Heap) (locs : List Loc) (ls : Array Slot), k12 x0 x2 x3 x5 x7 = some o → WP g A w H → va_S A s.heap H locs → lv_has ls 10 [(0, .long x0), (2, .int (bI x2)), (3, .long x3), (5, .long x5), (7, .int x7)] → W p l e rm_X11_fifth s m args below meth c H locs 0 0 Q (F0 m 12 ls [])) , ∀ (x0 : Int64) (x2 : Bool) (x5 : Int64) (x7 : Int32) (t0 : Int64) (t1 : Int64) (H : Heap) (locs : List Loc) (ls : Array Slot), f_X11_fifth_b51   k12 x0 x2 x5 x7 t0 t1 = some o → WP g A w H → va_S A s.heap H locs → lv_has ls 10 [(0, .long x0), (2, .int (bI x2)), (5, .long x5), (7, .int x7)] → W p l e rm_X11_fifth s m args below meth c H locs 0 0 Q (F0 m 51 ls [.long t1, .long t0]) := by
    intro k12 hk12 x0 x2 x5 x7 t0 t1 H locs ls h hP hS hl
    unfold f_X11_fifth_b51 at h
    refine lv_ladd hx hb dX11_fifth_51 ?_
    refine lv_topl (fun v3 ev3 => ?_)
    have h := lt_at ev3 h
    refine lv_lstore_n (lv' := [(3, .long v3), (0, .long x0), (2, .int (bI x2)), (5, .long x5), (7, .int x7)]) hx hb dX11_fifth_52 rfl hl (by decide) rfl (fun ls hl => ?_)
    refine lv_lload hx hb dX11_fifth_53 (lv_at hl 3 rfl) ?_
    refine lv_lload_n hx hb dX11_fifth_55 rfl (lv_at hl 1 rfl) ?_
    refine lv_lload_n hx hb dX11_fifth_56 rfl (lv_at hl 1 rfl) ?_
    refine lv_lmul hx hb dX11_fifth_57 ?_
    obtain ⟨cz58, h⟩ := gz_of h
    refine lv_ldiv hx hb dX11_fifth_58 cz58 ?_
    refine lv_topl (fun v4 ev4 => ?_)
    have h := lt_at ev4 h
    refine lv_lstore (lv' := [(5, .long v4), (3, .long v3), (0, .long x0), (2, .int (bI x2)), (7, .int x7)]) hx hb dX11_fifth_59 hl (by decide) rfl (fun ls hl => ?_)
    obtain ⟨v5, ev5⟩ : ∃ z : Int32, z = (x7 + 1) := ⟨_, rfl⟩
    have h := lt_at ev5 h
    refine lv_iinc (v := v5) (lv' := [(7, .int v5), (5, .long v4), (3, .long v3), (0, .long x0), (2, .int (bI x2))]) hx hb dX11_fifth_61 hl (k := 4) rfl (by rw [ev5]; rfl) (by decide) rfl (fun ls hl => ?_)
    refine lv_goto (tgt := 12) hx hb dX11_fifth_64 rfl ?_
    exact hk12 x0 x2 v3 v4 v5 _ _ _ h hP hS (lv_sub hl [3, 4, 2, 1, 0] rfl)
  have b43 : ∀ (k12 : Int64 → Bool → Int64 → Int64 → Int32 → Option (Int64)) (hk12 : ∀ (x0 : Int64) (x2 : Bool) (x3 : Int64) (x5 : Int64) (x7 : Int32) (H : Heap) (locs : List Loc) (ls : Array Slot), k12 x0 x2 x3 x5 x7 = some o → WP g A w H → va_S A s.heap H locs → lv_has ls 10 [(0, .long x0), (2, .int (bI x2)), (3, .long x3), (5, .long x5), (7, .int x7)] → W p l e rm_X11_fifth s m args below meth c H locs 0 0 Q (F0 m 12 ls [])) , ∀ (x0 : Int64) (x2 : Bool) (x5 : Int64) (x7 : Int32) (x8 : Int64) (t0 : Int64) (H : Heap) (locs : List Loc) (ls : Array Slot), f_X11_fifth_b43   k12 x0 x2 x5 x7 x8 t0 = some o → WP g A w H → va_S A s.heap H locs → lv_has ls 10 [(0, .long x0), (2, .int (bI x2)), (5, .long x5), (7, .int x7), (8, .long x8)] → W p l e rm_X11_fifth s m args below meth c H locs 0 0 Q (F0 m 43 ls [.long t0]) := by
    intro k12 hk12 x0 x2 x5 x7 x8 t0 H locs ls h hP hS hl
    unfold f_X11_fifth_b43 at h
    refine lv_lload hx hb dX11_fifth_43 (lv_at hl 4 rfl) ?_
    refine lv_goto (tgt := 51) hx hb dX11_fifth_45 rfl ?_
    exact b51 k12 hk12  x0 x2 x5 x7 t0 x8 _ _ _ h hP hS (lv_sub hl [0, 1, 2, 3] rfl)
  have l12 : ∀ (n : Nat), ∀ (x0 : Int64) (x2 : Bool) (x3 : Int64) (x5 : Int64) (x7 : Int32) (H : Heap) (locs : List Loc) (ls : Array Slot), f_X11_fifth_l12    n x0 x2 x3 x5 x7 = some o → WP g A w H → va_S A s.heap H locs → lv_has ls 10 [(0, .long x0), (2, .int (bI x2)), (3, .long x3), (5, .long x5), (7, .int x7)] → W p l e rm_X11_fifth s m args below meth c H locs 0 0 Q (F0 m 12 ls []) := by
    intro  n
    induction n with
    | zero =>
      intro x0 x2 x3 x5 x7 H locs ls h
      exact nz_of h
    | succ n ih =>
      intro x0 x2 x3 x5 x7 H locs ls h hP hS hl
      rw [f_X11_fifth_l12] at h
      refine lv_lload hx hb dX11_fifth_12 (lv_at hl 3 rfl) ?_
      refine lv_lconst (v := 0) hx hb dX11_fifth_14 rfl ?_
      refine rl_le (tgt := 67) hx hb dX11_fifth_15 dX11_fifth_16 rfl (fun c15 => ?_) (fun c15 => ?_)
      · have h := br_p c15 h
        refine lv_lload_n hx hb dX11_fifth_67 rfl (lv_at hl 2 rfl) ?_
        exact ret h hP hS dX11_fifth_68
      · have h := br_n c15 h
        refine lv_lload hx hb dX11_fifth_19 (lv_at hl 3 rfl) ?_
        refine lv_iconst (v := 2) hx hb dX11_fifth_21 rfl ?_
        refine lv_iload hx hb dX11_fifth_22 (lv_at hl 4 rfl) ?_
        refine lv_imul hx hb dX11_fifth_24 ?_
        refine lv_iconst (v := 1) hx hb dX11_fifth_25 rfl ?_
        refine lv_iadd hx hb dX11_fifth_26 ?_
        refine lv_i2l hx hb dX11_fifth_27 rfl ?_
        obtain ⟨cz28, h⟩ := gz_of h
        refine lv_ldiv hx hb dX11_fifth_28 cz28 ?_
        refine lv_topl (fun v2 ev2 => ?_)
        have h := lt_at ev2 h
        refine lv_lstore (lv' := [(8, .long v2), (0, .long x0), (2, .int (bI x2)), (3, .long x3), (5, .long x5), (7, .int x7)]) hx hb dX11_fifth_29 hl (by decide) rfl (fun ls hl => ?_)
        refine lv_lload_n hx hb dX11_fifth_31 rfl (lv_at hl 3 rfl) ?_
        refine lv_iload_n hx hb dX11_fifth_32 rfl (lv_at hl 2 rfl) ?_
        refine rb_ne (tgt := 43) hx hb dX11_fifth_33 rfl (fun c33 => ?_) (fun c33 => ?_)
        · have h := br_p c33 h
          exact b43 (f_X11_fifth_l12    n) ih  x0 x2 x5 x7 v2 x3 _ _ _ h hP hS (lv_sub hl [1, 2, 4, 5, 0] rfl)
        · have h := br_n c33 h
          refine lv_iload hx hb dX11_fifth_36 (lv_at hl 5 rfl) ?_
          refine lv_iconst (v := 2) hx hb dX11_fifth_38 rfl ?_
          obtain ⟨cz39, h⟩ := gz_of h
          refine lv_irem hx hb dX11_fifth_39 cz39 ?_
          refine jx1 h (P := fun (v6 : Int64) => ∀ ls : Array Slot, lv_has ls 10 [(0, .long x0), (2, .int (bI x2)), (5, .long x5), (7, .int x7)] → W p l e rm_X11_fifth s m args below meth c H locs 0 0 Q (F0 m 51 ls [.long v6, .long x3])) ?_ ?_
          · intro v6 h ls hl
            refine lv_ladd hx hb dX11_fifth_51 ?_
            refine lv_topl (fun v7 ev7 => ?_)
            have h := lt_at ev7 h
            refine lv_lstore_n (lv' := [(3, .long v7), (0, .long x0), (2, .int (bI x2)), (5, .long x5), (7, .int x7)]) hx hb dX11_fifth_52 rfl hl (by decide) rfl (fun ls hl => ?_)
            refine lv_lload hx hb dX11_fifth_53 (lv_at hl 3 rfl) ?_
            refine lv_lload_n hx hb dX11_fifth_55 rfl (lv_at hl 1 rfl) ?_
            refine lv_lload_n hx hb dX11_fifth_56 rfl (lv_at hl 1 rfl) ?_
            refine lv_lmul hx hb dX11_fifth_57 ?_
            obtain ⟨cz58, h⟩ := gz_of h
            refine lv_ldiv hx hb dX11_fifth_58 cz58 ?_
            refine lv_topl (fun v8 ev8 => ?_)
            have h := lt_at ev8 h
            refine lv_lstore (lv' := [(5, .long v8), (3, .long v7), (0, .long x0), (2, .int (bI x2)), (7, .int x7)]) hx hb dX11_fifth_59 hl (by decide) rfl (fun ls hl => ?_)
            obtain ⟨v9, ev9⟩ : ∃ z : Int32, z = (x7 + 1) := ⟨_, rfl⟩
            have h := lt_at ev9 h
            refine lv_iinc (v := v9) (lv' := [(7, .int v9), (5, .long v8), (3, .long v7), (0, .long x0), (2, .int (bI x2))]) hx hb dX11_fifth_61 hl (k := 4) rfl (by rw [ev9]; rfl) (by decide) rfl (fun ls hl => ?_)
            refine lv_goto (tgt := 12) hx hb dX11_fifth_64 rfl ?_
            exact ih x0 x2 v7 v8 v9 _ _ _ h hP hS (lv_sub hl [3, 4, 2, 1, 0] rfl)
          · intro J h
            refine lv_if_ne (tgt := 48) hx hb dX11_fifth_40 rfl (fun c40 => ?_) (fun c40 => ?_)
            · refine lv_lload hx hb dX11_fifth_48 (lv_at hl 0 rfl) ?_
              refine lv_lneg hx hb dX11_fifth_50 ?_
              exact J _ (lt_in c40 h) ls (lv_sub hl [1, 2, 4, 5] rfl)
            · refine lv_lload hx hb dX11_fifth_43 (lv_at hl 0 rfl) ?_
              refine lv_goto (tgt := 51) hx hb dX11_fifth_45 rfl ?_
              exact J _ (lt_ip c40 h) ls (lv_sub hl [1, 2, 4, 5] rfl)
  unfold f_X11_fifth at h
  refine lv_lconst (v := 0) hx hb dX11_fifth_0 rfl ?_
  refine lv_lstore_n (lv' := [(3, .long (0 : Int64)), (0, .long p0), (2, .int (bI p1))]) hx hb dX11_fifth_1 rfl hl (by decide) rfl (fun ls hl => ?_)
  refine lv_ldc2 (v := 72057594037927936) hx hb X.2.2.2.1 (X.2.2.2.2.1 _ wd_5_210) dX11_fifth_2 ?_
  refine lv_lload_n hx hb dX11_fifth_5 rfl (lv_at hl 1 rfl) ?_
  obtain ⟨cz6, h⟩ := gz_of h
  refine lv_ldiv hx hb dX11_fifth_6 cz6 ?_
  refine lv_topl (fun v1 ev1 => ?_)
  have h := lt_at ev1 h
  refine lv_lstore (lv' := [(5, .long v1), (3, .long (0 : Int64)), (0, .long p0), (2, .int (bI p1))]) hx hb dX11_fifth_7 hl (by decide) rfl (fun ls hl => ?_)
  refine lv_iconst (v := 0) hx hb dX11_fifth_9 rfl ?_
  refine lv_istore (lv' := [(7, .int 0), (5, .long v1), (3, .long (0 : Int64)), (0, .long p0), (2, .int (bI p1))]) hx hb dX11_fifth_10 hl (by decide) rfl (fun ls hl => ?_)
  exact l12  FU p0 p1 (0 : Int64) v1 (0 : Int32) _ _ _ h hP hS (lv_sub hl [3, 4, 2, 1, 0] rfl)
abbrev rm_X11_eighth : Room := { frames := 1, cells := 0, slots := 0, locals := 29 }
set_option maxRecDepth 100000 in
set_option maxHeartbeats 4000000 in
theorem c_X11_eighth {g : gT} {l : Launch} {A : Nat → Prop} {w : va_W}  {o : Int64} (h : f_X11_eighth   = some o) : Std g l yX11_eighth (.code yX11_eighth cX11_eighth 0 (some .long) :: gw) rm_X11_eighth A [] w w (some (.long o)) := by
  refine std_l (own := RX11) (by decide +kernel) rfl (Nat.le_of_ble_eq_true rfl) ?_
  intro p e s m args below meth c Q X ret H locs hP hS ls hl
  have hx := X.1
  have hb := X.2.1
  have hl : lv_has ls 0 [] := hl
  have ret : ∀ {H : Heap} {locs : List Loc} {pc : Nat} {ls : Array Slot} {v : Int64} , some (v) = some o → WP g A w H → va_S A s.heap H locs → decode cX11_eighth pc = .ok (.lreturn, 1) → W p l e rm_X11_eighth s m args below meth c H locs 0 0 Q (F0 m pc ls [.long v]) := by
    intro H locs pc ls v h hP hS hd
    cases h
    exact ret hP hS hd
  unfold f_X11_eighth at h
  refine lv_ldc2 (v := 4) hx hb X.2.2.2.1 (X.2.2.2.2.1 _ wd_5_205) dX11_eighth_0 ?_
  refine lv_ldc2 (v := 5) hx hb X.2.2.2.1 (X.2.2.2.2.1 _ wd_5_206) dX11_eighth_3 ?_
  refine lv_iconst (v := 0) hx hb dX11_eighth_6 rfl ?_
  obtain ⟨o1, hco1, h⟩ := bd_of h
  refine kS (rest := [.long (4 : Int64)]) X dX11_eighth_7 wd_5_207 mw_X11_fifth wd_5_208 hP hS (fun _ z => z) (c_X11_fifth hco1) rfl hl.1 rfl (Nat.le_of_ble_eq_true rfl) rfl rfl ⟨Nat.le_of_ble_eq_true rfl, Nat.le_of_ble_eq_true rfl⟩ (fun H locs hP _ _ hS => ?_)
  refine W.eq (g2 := F0 m 10 ls [.long o1, .long (4 : Int64)]) rfl ?_
  refine lv_lmul hx hb dX11_eighth_10 ?_
  refine lv_ldc2 (v := 239) hx hb X.2.2.2.1 (X.2.2.2.2.1 _ wd_5_211) dX11_eighth_11 ?_
  refine lv_iconst (v := 0) hx hb dX11_eighth_14 rfl ?_
  obtain ⟨o2, hco2, h⟩ := bd_of h
  refine kS (rest := [.long ((4 : Int64) * o1)]) X dX11_eighth_15 wd_5_207 mw_X11_fifth wd_5_208 hP hS (fun _ z => z) (c_X11_fifth hco2) rfl hl.1 rfl (Nat.le_of_ble_eq_true rfl) rfl rfl ⟨Nat.le_of_ble_eq_true rfl, Nat.le_of_ble_eq_true rfl⟩ (fun H locs hP _ _ hS => ?_)
  refine W.eq (g2 := F0 m 18 ls [.long o2, .long ((4 : Int64) * o1)]) rfl ?_
  refine lv_lsub hx hb dX11_eighth_18 ?_
  exact ret h hP hS dX11_eighth_19
abbrev rm_X11_by : Room := { frames := 0, cells := 0, slots := 0, locals := 0 }
set_option maxRecDepth 100000 in
set_option maxHeartbeats 4000000 in
theorem c_X11_by {g : gT} {l : Launch} {A : Nat → Prop} {w : va_W} {p0 : Int64} {p1 : Int32} {o : Int64} (h : f_X11_by p0 p1  = some o) : Std g l yX11_by (.code yX11_by cX11_by 3 (some .long) :: gw) rm_X11_by A [.long p0, .int p1] w w (some (.long o)) := by
  refine std_l (own := RX11) (by decide +kernel) rfl (Nat.le_of_ble_eq_true rfl) ?_
  intro p e s m args below meth c Q X ret H locs hP hS ls hl
  have hx := X.1
  have hb := X.2.1
  have hl : lv_has ls 3 [(0, .long p0), (2, .int p1)] := hl
  have ret : ∀ {H : Heap} {locs : List Loc} {pc : Nat} {ls : Array Slot} {v : Int64} , some (v) = some o → WP g A w H → va_S A s.heap H locs → decode cX11_by pc = .ok (.lreturn, 1) → W p l e rm_X11_by s m args below meth c H locs 0 0 Q (F0 m pc ls [.long v]) := by
    intro H locs pc ls v h hP hS hd
    cases h
    exact ret hP hS hd
  unfold f_X11_by at h
  refine lv_lload_n hx hb dX11_by_0 rfl (lv_at hl 0 rfl) ?_
  refine lv_lconst (v := 1) hx hb dX11_by_1 rfl ?_
  refine lv_bipush (v := 55) hx hb dX11_by_2 rfl ?_
  refine lv_iload_n hx hb dX11_by_4 rfl (lv_at hl 1 rfl) ?_
  refine lv_isub hx hb dX11_by_5 ?_
  refine lv_lshl hx hb dX11_by_6 rfl ?_
  refine lv_ladd hx hb dX11_by_7 ?_
  refine lv_bipush (v := 56) hx hb dX11_by_8 rfl ?_
  refine lv_iload_n hx hb dX11_by_10 rfl (lv_at hl 1 rfl) ?_
  refine lv_isub hx hb dX11_by_11 ?_
  refine lv_lshr hx hb dX11_by_12 rfl ?_
  exact ret h hP hS dX11_by_13
abbrev rm_X11_laysShifts : Room := { frames := 0, cells := 0, slots := 0, locals := 0 }
set_option maxRecDepth 100000 in
set_option maxHeartbeats 4000000 in
theorem c_X11_laysShifts {g : gT} {l : Launch} {A : Nat → Prop} {q : Nat → Nat} {m_thrown : Int32} {m_length : Int32} {m_at : Int32} {m_fault : Int32} {m_toldWords : Int32} {m_orders : Int32} {m_value : Int32} {m_hasUnit : Bool} {m_places : Int32} {m_clocks : Int32} {m_held : Bool} {m_x : Int64} {m_y : Int64} {m_z : Int64} {m_first : Int64} {m_second : Int64} {m_aside : Int32} {m_jobs : Int32} {m_jobsImage : Int32} {m_clocksImage : Int32} {m_heldImage : Bool} {m_hasImage : Bool} {m_tape : Nat → Int32} {m_read : Nat → Int32} {m_order : Nat → Int32} {m_width : Nat → Int32} {m_guard : Nat → Int32} {m_points : Nat → Int32} {m_stages : Nat → Int32} {m_gain : Nat → Int32} {m_undo : Nat → Int32} {m_near : Nat → Bool} {m_quarter : Nat → Int64} {m_ln : Nat → Int64} {m_angle : Nat → Int64} {m_shift : Nat → Int32} {m_digit : Nat → Int32} {m_refused : Nat → Int32} {m_job : Nat → Int32} {m_jobKept : Nat → Int32} {m_result : Nat → Int32} {m_resultKept : Nat → Int32} {m_trace : Nat → Int64} {m_traceKept : Nat → Int64} {m_jobImage : Nat → Int32} {m_resultImage : Nat → Int32} {m_traceImage : Nat → Int64}  {o : (Nat → Int32)} (h : f_X11_laysShifts  m_shift = some o) : Std g l yX11_laysShifts (.code yX11_laysShifts cX11_laysShifts 5 none :: gw) rm_X11_laysShifts A [.ref (q 0)] (wM g q m_thrown m_length m_at m_fault m_toldWords m_orders m_value m_hasUnit m_places m_clocks m_held m_x m_y m_z m_first m_second m_aside m_jobs m_jobsImage m_clocksImage m_heldImage m_hasImage m_tape m_read m_order m_width m_guard m_points m_stages m_gain m_undo m_near m_quarter m_ln m_angle m_shift m_digit m_refused m_job m_jobKept m_result m_resultKept m_trace m_traceKept m_jobImage m_resultImage m_traceImage) (wM g q m_thrown m_length m_at m_fault m_toldWords m_orders m_value m_hasUnit m_places m_clocks m_held m_x m_y m_z m_first m_second m_aside m_jobs m_jobsImage m_clocksImage m_heldImage m_hasImage m_tape m_read m_order m_width m_guard m_points m_stages m_gain m_undo m_near m_quarter m_ln m_angle o m_digit m_refused m_job m_jobKept m_result m_resultKept m_trace m_traceKept m_jobImage m_resultImage m_traceImage) none := by
  refine std_v (own := RX11) (by decide +kernel) rfl (Nat.le_of_ble_eq_true rfl) ?_
  intro p e s m args below meth c Q X ret H locs hP hS ls hl
  have hx := X.1
  have hb := X.2.1
  have hl : lv_has ls 5 [(0, .ref (q 0))] := hl
  have ret : ∀ {H : Heap} {locs : List Loc} {pc : Nat} {ls : Array Slot} {m_shift : Nat → Int32}, some (m_shift) = some o → WP g A (wM g q m_thrown m_length m_at m_fault m_toldWords m_orders m_value m_hasUnit m_places m_clocks m_held m_x m_y m_z m_first m_second m_aside m_jobs m_jobsImage m_clocksImage m_heldImage m_hasImage m_tape m_read m_order m_width m_guard m_points m_stages m_gain m_undo m_near m_quarter m_ln m_angle m_shift m_digit m_refused m_job m_jobKept m_result m_resultKept m_trace m_traceKept m_jobImage m_resultImage m_traceImage) H → va_S A s.heap H locs → decode cX11_laysShifts pc = .ok (.return_, 1) → W p l e rm_X11_laysShifts s m args below meth c H locs 0 0 Q (F0 m pc ls []) := by
    intro H locs pc ls m_shift h hP hS hd
    cases h
    exact ret hP hS hd
  have l6 : ∀ (n : Nat), ∀ (x1 : Int32) (x2 : Bool) (x3 : Int32) (m_shift : Nat → Int32) (H : Heap) (locs : List Loc) (ls : Array Slot), f_X11_laysShifts_l6    n x1 x2 x3 m_shift = some o → WP g A (wM g q m_thrown m_length m_at m_fault m_toldWords m_orders m_value m_hasUnit m_places m_clocks m_held m_x m_y m_z m_first m_second m_aside m_jobs m_jobsImage m_clocksImage m_heldImage m_hasImage m_tape m_read m_order m_width m_guard m_points m_stages m_gain m_undo m_near m_quarter m_ln m_angle m_shift m_digit m_refused m_job m_jobKept m_result m_resultKept m_trace m_traceKept m_jobImage m_resultImage m_traceImage) H → va_S A s.heap H locs → lv_has ls 5 [(0, .ref (q 0)), (1, .int x1), (2, .int (bI x2)), (3, .int x3)] → W p l e rm_X11_laysShifts s m args below meth c H locs 0 0 Q (F0 m 6 ls []) := by
    intro  n
    induction n with
    | zero =>
      intro x1 x2 x3 m_shift H locs ls h
      exact nz_of h
    | succ n ih =>
      intro x1 x2 x3 m_shift H locs ls h hP hS hl
      rw [f_X11_laysShifts_l6] at h
      refine lv_iload_n hx hb dX11_laysShifts_6 rfl (lv_at hl 3 rfl) ?_
      refine lv_bipush (v := 24) hx hb dX11_laysShifts_7 rfl ?_
      refine lv_icmp_ge (tgt := 85) hx hb dX11_laysShifts_9 rfl (fun c9 => ?_) (fun c9 => ?_)
      · have h := br_p c9 h
        exact ret h hP hS dX11_laysShifts_85
      · have h := br_n c9 h
        refine lv_aload_n hx hb dX11_laysShifts_12 rfl (lv_at hl 0 rfl) ?_
        refine gf_X11_154_M_0 X hP dX11_laysShifts_13 ?_
        refine lv_iconst (v := 0) hx hb dX11_laysShifts_16 rfl ?_
        refine lv_iload_n hx hb dX11_laysShifts_17 rfl (lv_at hl 3 rfl) ?_
        refine lv_iadd hx hb dX11_laysShifts_18 ?_
        refine lv_iload_n hx hb dX11_laysShifts_19 rfl (lv_at hl 3 rfl) ?_
        obtain ⟨hi20, h⟩ := gv_of h
        refine as_M_14 (v0 := x3) X hP hS hi20 dX11_laysShifts_20 (fun H locs hP hS => ?_)
        refine lv_aload_n hx hb dX11_laysShifts_21 rfl (lv_at hl 0 rfl) ?_
        refine gf_X11_154_M_0 X hP dX11_laysShifts_22 ?_
        refine lv_bipush (v := 24) hx hb dX11_laysShifts_25 rfl ?_
        refine lv_iload_n hx hb dX11_laysShifts_27 rfl (lv_at hl 3 rfl) ?_
        refine lv_iadd hx hb dX11_laysShifts_28 ?_
        refine lv_iload_n hx hb dX11_laysShifts_29 rfl (lv_at hl 3 rfl) ?_
        obtain ⟨hi30, h⟩ := gv_of h
        refine as_M_14 (v0 := x3) X hP hS hi30 dX11_laysShifts_30 (fun H locs hP hS => ?_)
        refine lv_aload_n hx hb dX11_laysShifts_31 rfl (lv_at hl 0 rfl) ?_
        refine gf_X11_154_M_0 X hP dX11_laysShifts_32 ?_
        refine lv_bipush (v := 48) hx hb dX11_laysShifts_35 rfl ?_
        refine lv_iload_n hx hb dX11_laysShifts_37 rfl (lv_at hl 3 rfl) ?_
        refine lv_iadd hx hb dX11_laysShifts_38 ?_
        refine lv_iload_n hx hb dX11_laysShifts_39 rfl (lv_at hl 1 rfl) ?_
        obtain ⟨hi40, h⟩ := gv_of h
        refine as_M_14 (v0 := x1) X hP hS hi40 dX11_laysShifts_40 (fun H locs hP hS => ?_)
        refine lv_iload_n hx hb dX11_laysShifts_41 rfl (lv_at hl 1 rfl) ?_
        refine lv_iconst (v := 4) hx hb dX11_laysShifts_42 rfl ?_
        refine jx1 h (P := fun (v1 : Bool) => ∀ ls : Array Slot, lv_has ls 5 [(0, .ref (q 0)), (1, .int x1), (3, .int x3)] → W p l e rm_X11_laysShifts s m args below meth c H locs 0 0 Q (F0 m 61 ls [.int (bI v1)])) ?_ ?_
        · intro v1 h ls hl
          refine lv_istore (lv' := [(4, .int (bI v1)), (0, .ref (q 0)), (1, .int x1), (3, .int x3)]) hx hb dX11_laysShifts_61 hl (by decide) rfl (fun ls hl => ?_)
          refine lv_iload hx hb dX11_laysShifts_63 (lv_at hl 0 rfl) ?_
          refine lv_istore_n (lv' := [(2, .int (bI v1)), (4, .int (bI v1)), (0, .ref (q 0)), (1, .int x1), (3, .int x3)]) hx hb dX11_laysShifts_65 rfl hl (by decide) rfl (fun ls hl => ?_)
          refine lv_iload_n hx hb dX11_laysShifts_66 rfl (lv_at hl 3 rfl) ?_
          refine lv_iload hx hb dX11_laysShifts_67 (lv_at hl 1 rfl) ?_
          refine jx1 h (P := fun (v2 : Bool) => ∀ ls : Array Slot, lv_has ls 5 [(0, .ref (q 0)), (2, .int (bI v1)), (3, .int x3)] → W p l e rm_X11_laysShifts s m args below meth c H locs 0 0 Q (F0 m 77 ls [.int (bI v2), .int x1])) ?_ ?_
          · intro v2 h ls hl
            refine lv_iadd hx hb dX11_laysShifts_77 ?_
            refine lv_topi (fun v3 ev3 => ?_)
            have h := lt_at ev3 h
            refine lv_istore_n (lv' := [(1, .int v3), (0, .ref (q 0)), (2, .int (bI v1)), (3, .int x3)]) hx hb dX11_laysShifts_78 rfl hl (by decide) rfl (fun ls hl => ?_)
            obtain ⟨v4, ev4⟩ : ∃ z : Int32, z = (x3 + 1) := ⟨_, rfl⟩
            have h := lt_at ev4 h
            refine lv_iinc (v := v4) (lv' := [(3, .int v4), (1, .int v3), (0, .ref (q 0)), (2, .int (bI v1))]) hx hb dX11_laysShifts_79 hl (k := 3) rfl (by rw [ev4]; rfl) (by decide) rfl (fun ls hl => ?_)
            refine lv_goto (tgt := 6) hx hb dX11_laysShifts_82 rfl ?_
            exact ih v3 v1 v4 (upd (upd (upd m_shift (((0 : Int32) + x3)).toNatClampNeg x3) (((24 : Int32) + x3)).toNatClampNeg x3) (((48 : Int32) + x3)).toNatClampNeg x1) _ _ _ h hP hS (lv_sub hl [2, 1, 3, 0] rfl)
          · intro J h
            refine rb_eq (tgt := 76) hx hb dX11_laysShifts_69 rfl (fun c69 => ?_) (fun c69 => ?_)
            · refine lv_iconst (v := 1) hx hb dX11_laysShifts_76 rfl ?_
              exact J _ (lt_in c69 h) ls (lv_sub hl [2, 0, 4] rfl)
            · refine lv_iconst (v := 0) hx hb dX11_laysShifts_72 rfl ?_
              refine lv_goto (tgt := 77) hx hb dX11_laysShifts_73 rfl ?_
              exact J _ (lt_ip c69 h) ls (lv_sub hl [2, 0, 4] rfl)
        · intro J h
          refine lv_icmp_eq (tgt := 52) hx hb dX11_laysShifts_43 rfl (fun c43 => ?_) (fun c43 => ?_)
          · refine lv_iload_n hx hb dX11_laysShifts_52 rfl (lv_at hl 2 rfl) ?_
            refine rb_ne (tgt := 60) hx hb dX11_laysShifts_53 rfl (fun c53 => ?_) (fun c53 => ?_)
            · refine lv_iconst (v := 0) hx hb dX11_laysShifts_60 rfl ?_
              exact J _ (lt_ip c53 (lt_ip c43 h)) ls (lv_sub hl [0, 1, 3] rfl)
            · refine lv_iconst (v := 1) hx hb dX11_laysShifts_56 rfl ?_
              refine lv_goto (tgt := 61) hx hb dX11_laysShifts_57 rfl ?_
              exact J _ (lt_in c53 (lt_ip c43 h)) ls (lv_sub hl [0, 1, 3] rfl)
          · refine lv_iload_n hx hb dX11_laysShifts_46 rfl (lv_at hl 1 rfl) ?_
            refine lv_bipush (v := 13) hx hb dX11_laysShifts_47 rfl ?_
            refine lv_icmp_ne (tgt := 60) hx hb dX11_laysShifts_49 rfl (fun c49 => ?_) (fun c49 => ?_)
            · refine lv_iconst (v := 0) hx hb dX11_laysShifts_60 rfl ?_
              exact J _ (lt_in c49 (lt_in c43 h)) ls (lv_sub hl [0, 1, 3] rfl)
            · refine lv_iload_n hx hb dX11_laysShifts_52 rfl (lv_at hl 2 rfl) ?_
              refine rb_ne (tgt := 60) hx hb dX11_laysShifts_53 rfl (fun c53 => ?_) (fun c53 => ?_)
              · refine lv_iconst (v := 0) hx hb dX11_laysShifts_60 rfl ?_
                exact J _ (lt_ip c53 (lt_ip c49 (lt_in c43 h))) ls (lv_sub hl [0, 1, 3] rfl)
              · refine lv_iconst (v := 1) hx hb dX11_laysShifts_56 rfl ?_
                refine lv_goto (tgt := 61) hx hb dX11_laysShifts_57 rfl ?_
                exact J _ (lt_in c53 (lt_ip c49 (lt_in c43 h))) ls (lv_sub hl [0, 1, 3] rfl)
  unfold f_X11_laysShifts at h
  refine lv_iconst (v := 1) hx hb dX11_laysShifts_0 rfl ?_
  refine lv_istore_n (lv' := [(1, .int 1), (0, .ref (q 0))]) hx hb dX11_laysShifts_1 rfl hl (by decide) rfl (fun ls hl => ?_)
  refine lv_iconst (v := 0) hx hb dX11_laysShifts_2 rfl ?_
  refine lv_istore_n (lv' := [(2, .int 0), (1, .int 1), (0, .ref (q 0))]) hx hb dX11_laysShifts_3 rfl hl (by decide) rfl (fun ls hl => ?_)
  refine lv_iconst (v := 0) hx hb dX11_laysShifts_4 rfl ?_
  refine lv_istore_n (lv' := [(3, .int 0), (2, .int 0), (1, .int 1), (0, .ref (q 0))]) hx hb dX11_laysShifts_5 rfl hl (by decide) rfl (fun ls hl => ?_)
  exact l6  FU (1 : Int32) false (0 : Int32) m_shift _ _ _ h hP hS (lv_sub hl [3, 2, 1, 0] rfl)
abbrev rm_X11_angleOf : Room := { frames := 2, cells := 0, slots := 0, locals := 48 }
set_option maxRecDepth 100000 in
set_option maxHeartbeats 4000000 in
theorem c_X11_angleOf {g : gT} {l : Launch} {A : Nat → Prop} {w : va_W} {p0 : Int32} {p1 : Int32} {p2 : Int32} {o : Int64} (h : f_X11_angleOf p0 p1 p2  = some o) : Std g l yX11_angleOf (.code yX11_angleOf cX11_angleOf 3 (some .long) :: gw) rm_X11_angleOf A [.int p0, .int p1, .int p2] w w (some (.long o)) := by
  refine std_l (own := RX11) (by decide +kernel) rfl (Nat.le_of_ble_eq_true rfl) ?_
  intro p e s m args below meth c Q X ret H locs hP hS ls hl
  have hx := X.1
  have hb := X.2.1
  have hl : lv_has ls 3 [(0, .int p0), (1, .int p1), (2, .int p2)] := hl
  have ret : ∀ {H : Heap} {locs : List Loc} {pc : Nat} {ls : Array Slot} {v : Int64} , some (v) = some o → WP g A w H → va_S A s.heap H locs → decode cX11_angleOf pc = .ok (.lreturn, 1) → W p l e rm_X11_angleOf s m args below meth c H locs 0 0 Q (F0 m pc ls [.long v]) := by
    intro H locs pc ls v h hP hS hd
    cases h
    exact ret hP hS hd
  have b48 : ∀ (x2 : Int32) (t0 : Int64) (H : Heap) (locs : List Loc) (ls : Array Slot), f_X11_angleOf_b48    x2 t0 = some o → WP g A w H → va_S A s.heap H locs → lv_has ls 3 [(2, .int x2)] → W p l e rm_X11_angleOf s m args below meth c H locs 0 0 Q (F0 m 48 ls [.long t0]) := by
    intro  x2 t0 H locs ls h hP hS hl
    unfold f_X11_angleOf_b48 at h
    refine lv_iload_n hx hb dX11_angleOf_48 rfl (lv_at hl 0 rfl) ?_
    obtain ⟨o2, hco2, h⟩ := bd_of h
    refine kS (rest := []) X dX11_angleOf_49 wd_5_212 mw_X11_by wd_5_213 hP hS (fun _ z => z) (c_X11_by hco2) rfl hl.1 rfl (Nat.le_of_ble_eq_true rfl) rfl rfl ⟨Nat.le_of_ble_eq_true rfl, Nat.le_of_ble_eq_true rfl⟩ (fun H locs hP _ _ hS => ?_)
    refine W.eq (g2 := F0 m 52 ls [.long o2]) rfl ?_
    exact ret h hP hS dX11_angleOf_52
  unfold f_X11_angleOf at h
  refine lv_iload_n hx hb dX11_angleOf_0 rfl (lv_at hl 0 rfl) ?_
  refine lv_iconst (v := 1) hx hb dX11_angleOf_1 rfl ?_
  refine lv_icmp_ne (tgt := 20) hx hb dX11_angleOf_2 rfl (fun c2 => ?_) (fun c2 => ?_)
  · have h := br_n c2 h
    refine lv_iload_n hx hb dX11_angleOf_20 rfl (lv_at hl 0 rfl) ?_
    refine lv_iconst (v := 2) hx hb dX11_angleOf_21 rfl ?_
    refine lv_icmp_ne (tgt := 33) hx hb dX11_angleOf_22 rfl (fun c22 => ?_) (fun c22 => ?_)
    · have h := br_n c22 h
      refine lv_iload_n hx hb dX11_angleOf_33 rfl (lv_at hl 1 rfl) ?_
      refine lv_if_ne (tgt := 43) hx hb dX11_angleOf_34 rfl (fun c34 => ?_) (fun c34 => ?_)
      · have h := br_n c34 h
        refine lv_iload_n hx hb dX11_angleOf_43 rfl (lv_at hl 1 rfl) ?_
        refine lv_iconst (v := 0) hx hb dX11_angleOf_44 rfl ?_
        obtain ⟨o1, hco1, h⟩ := bd_of h
        refine kS (rest := []) X dX11_angleOf_45 wd_5_223 mw_X11_terms wd_5_224 hP hS (fun _ z => z) (c_X11_terms hco1) rfl hl.1 rfl (Nat.le_of_ble_eq_true rfl) rfl rfl ⟨Nat.le_of_ble_eq_true rfl, Nat.le_of_ble_eq_true rfl⟩ (fun H locs hP _ _ hS => ?_)
        refine W.eq (g2 := F0 m 48 ls [.long o1]) rfl ?_
        exact b48   p2 o1 _ _ _ h hP hS (lv_sub hl [2] rfl)
      · have h := br_p c34 h
        obtain ⟨o3, hco3, h⟩ := bd_of h
        refine kS (rest := []) X dX11_angleOf_37 wd_5_202 mw_X11_eighth wd_5_203 hP hS (fun _ z => z) (c_X11_eighth hco3) rfl hl.1 rfl (Nat.le_of_ble_eq_true rfl) rfl rfl ⟨Nat.le_of_ble_eq_true rfl, Nat.le_of_ble_eq_true rfl⟩ (fun H locs hP _ _ hS => ?_)
        refine W.eq (g2 := F0 m 40 ls [.long o3]) rfl ?_
        refine lv_goto (tgt := 48) hx hb dX11_angleOf_40 rfl ?_
        exact b48   p2 o3 _ _ _ h hP hS (lv_sub hl [2] rfl)
    · have h := br_p c22 h
      refine lv_iload_n hx hb dX11_angleOf_25 rfl (lv_at hl 1 rfl) ?_
      refine lv_iconst (v := 1) hx hb dX11_angleOf_26 rfl ?_
      obtain ⟨o4, hco4, h⟩ := bd_of h
      refine kS (rest := []) X dX11_angleOf_27 wd_5_223 mw_X11_terms wd_5_224 hP hS (fun _ z => z) (c_X11_terms hco4) rfl hl.1 rfl (Nat.le_of_ble_eq_true rfl) rfl rfl ⟨Nat.le_of_ble_eq_true rfl, Nat.le_of_ble_eq_true rfl⟩ (fun H locs hP _ _ hS => ?_)
      refine W.eq (g2 := F0 m 30 ls [.long o4]) rfl ?_
      refine lv_goto (tgt := 48) hx hb dX11_angleOf_30 rfl ?_
      exact b48   p2 o4 _ _ _ h hP hS (lv_sub hl [2] rfl)
  · have h := br_p c2 h
    refine lv_iload_n hx hb dX11_angleOf_5 rfl (lv_at hl 1 rfl) ?_
    refine lv_iload_n hx hb dX11_angleOf_6 rfl (lv_at hl 2 rfl) ?_
    refine jx1 h (P := fun (v5 : Int64) => ∀ ls : Array Slot, lv_has ls 3 [] → W p l e rm_X11_angleOf s m args below meth c H locs 0 0 Q (F0 m 19 ls [.long v5])) ?_ ?_
    · intro v5 h ls hl
      exact ret h hP hS dX11_angleOf_19
    · intro J h
      refine lv_icmp_gt (tgt := 18) hx hb dX11_angleOf_7 rfl (fun c7 => ?_) (fun c7 => ?_)
      · refine lv_lconst (v := 0) hx hb dX11_angleOf_18 rfl ?_
        exact J _ (lt_ip c7 h) ls (lv_sub hl [] rfl)
      · refine lv_lconst (v := 1) hx hb dX11_angleOf_10 rfl ?_
        refine lv_iload_n hx hb dX11_angleOf_11 rfl (lv_at hl 2 rfl) ?_
        refine lv_iload_n hx hb dX11_angleOf_12 rfl (lv_at hl 1 rfl) ?_
        refine lv_isub hx hb dX11_angleOf_13 ?_
        refine lv_lshl hx hb dX11_angleOf_14 rfl ?_
        refine lv_goto (tgt := 19) hx hb dX11_angleOf_15 rfl ?_
        exact J _ (lt_in c7 h) ls (lv_sub hl [] rfl)
abbrev rm_X11_row : Room := { frames := 0, cells := 0, slots := 0, locals := 0 }
set_option maxRecDepth 100000 in
set_option maxHeartbeats 4000000 in
theorem c_X11_row {g : gT} {l : Launch} {A : Nat → Prop} {q : Nat → Nat} {m_thrown : Int32} {m_length : Int32} {m_at : Int32} {m_fault : Int32} {m_toldWords : Int32} {m_orders : Int32} {m_value : Int32} {m_hasUnit : Bool} {m_places : Int32} {m_clocks : Int32} {m_held : Bool} {m_x : Int64} {m_y : Int64} {m_z : Int64} {m_first : Int64} {m_second : Int64} {m_aside : Int32} {m_jobs : Int32} {m_jobsImage : Int32} {m_clocksImage : Int32} {m_heldImage : Bool} {m_hasImage : Bool} {m_tape : Nat → Int32} {m_read : Nat → Int32} {m_order : Nat → Int32} {m_width : Nat → Int32} {m_guard : Nat → Int32} {m_points : Nat → Int32} {m_stages : Nat → Int32} {m_gain : Nat → Int32} {m_undo : Nat → Int32} {m_near : Nat → Bool} {m_quarter : Nat → Int64} {m_ln : Nat → Int64} {m_angle : Nat → Int64} {m_shift : Nat → Int32} {m_digit : Nat → Int32} {m_refused : Nat → Int32} {m_job : Nat → Int32} {m_jobKept : Nat → Int32} {m_result : Nat → Int32} {m_resultKept : Nat → Int32} {m_trace : Nat → Int64} {m_traceKept : Nat → Int64} {m_jobImage : Nat → Int32} {m_resultImage : Nat → Int32} {m_traceImage : Nat → Int64} {p0 : Int32} {p1 : Int32} {o : Int32} (h : f_X11_row p0 p1  = some o) : Std g l yX11_row (.code yX11_row cX11_row 3 (some .int) :: gw) rm_X11_row A [.ref (q 0), .int p0, .int p1] (wM g q m_thrown m_length m_at m_fault m_toldWords m_orders m_value m_hasUnit m_places m_clocks m_held m_x m_y m_z m_first m_second m_aside m_jobs m_jobsImage m_clocksImage m_heldImage m_hasImage m_tape m_read m_order m_width m_guard m_points m_stages m_gain m_undo m_near m_quarter m_ln m_angle m_shift m_digit m_refused m_job m_jobKept m_result m_resultKept m_trace m_traceKept m_jobImage m_resultImage m_traceImage) (wM g q m_thrown m_length m_at m_fault m_toldWords m_orders m_value m_hasUnit m_places m_clocks m_held m_x m_y m_z m_first m_second m_aside m_jobs m_jobsImage m_clocksImage m_heldImage m_hasImage m_tape m_read m_order m_width m_guard m_points m_stages m_gain m_undo m_near m_quarter m_ln m_angle m_shift m_digit m_refused m_job m_jobKept m_result m_resultKept m_trace m_traceKept m_jobImage m_resultImage m_traceImage) (some (.int o)) := by
  refine std_i (own := RX11) (by decide +kernel) rfl (Nat.le_of_ble_eq_true rfl) ?_
  intro p e s m args below meth c Q X ret H locs hP hS ls hl
  have hx := X.1
  have hb := X.2.1
  have hl : lv_has ls 3 [(0, .ref (q 0)), (1, .int p0), (2, .int p1)] := hl
  have ret : ∀ {H : Heap} {locs : List Loc} {pc : Nat} {ls : Array Slot} {v : Int32} , some (v) = some o → WP g A (wM g q m_thrown m_length m_at m_fault m_toldWords m_orders m_value m_hasUnit m_places m_clocks m_held m_x m_y m_z m_first m_second m_aside m_jobs m_jobsImage m_clocksImage m_heldImage m_hasImage m_tape m_read m_order m_width m_guard m_points m_stages m_gain m_undo m_near m_quarter m_ln m_angle m_shift m_digit m_refused m_job m_jobKept m_result m_resultKept m_trace m_traceKept m_jobImage m_resultImage m_traceImage) H → va_S A s.heap H locs → decode cX11_row pc = .ok (.ireturn, 1) → W p l e rm_X11_row s m args below meth c H locs 0 0 Q (F0 m pc ls [.int v]) := by
    intro H locs pc ls v h hP hS hd
    cases h
    exact ret hP hS hd
  unfold f_X11_row at h
  refine lv_iconst (v := 3) hx hb dX11_row_0 rfl ?_
  refine lv_iload_n hx hb dX11_row_1 rfl (lv_at hl 1 rfl) ?_
  refine lv_imul hx hb dX11_row_2 ?_
  refine lv_iload_n hx hb dX11_row_3 rfl (lv_at hl 2 rfl) ?_
  refine lv_iadd hx hb dX11_row_4 ?_
  exact ret h hP hS dX11_row_5
