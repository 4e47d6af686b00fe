abbrev rm_X11_isWanted : Room := { frames := 1, cells := 0, slots := 0, locals := 22 }
set_option maxRecDepth 100000 in
set_option maxHeartbeats 4000000 in
theorem c_X11_isWanted {g : gT} {l : Launch} {A : Nat → Prop} {q : Nat → Nat} {m_thrown : Int32} {m_length : Int32} {m_at : Int32} {m_fault : Int32} {m_toldWords : Int32} {m_orders : Int32} {m_value : Int32} {m_hasUnit : Bool} {m_places : Int32} {m_clocks : Int32} {m_held : Bool} {m_x : Int64} {m_y : Int64} {m_z : Int64} {m_first : Int64} {m_second : Int64} {m_aside : Int32} {m_jobs : Int32} {m_jobsImage : Int32} {m_clocksImage : Int32} {m_heldImage : Bool} {m_hasImage : Bool} {m_tape : Nat → Int32} {m_read : Nat → Int32} {m_order : Nat → Int32} {m_width : Nat → Int32} {m_guard : Nat → Int32} {m_points : Nat → Int32} {m_stages : Nat → Int32} {m_gain : Nat → Int32} {m_undo : Nat → Int32} {m_near : Nat → Bool} {m_quarter : Nat → Int64} {m_ln : Nat → Int64} {m_angle : Nat → Int64} {m_shift : Nat → Int32} {m_digit : Nat → Int32} {m_refused : Nat → Int32} {m_job : Nat → Int32} {m_jobKept : Nat → Int32} {m_result : Nat → Int32} {m_resultKept : Nat → Int32} {m_trace : Nat → Int64} {m_traceKept : Nat → Int64} {m_jobImage : Nat → Int32} {m_resultImage : Nat → Int32} {m_traceImage : Nat → Int64} {p0 : Int32} {o : Bool} (h : f_X11_isWanted p0 m_jobs m_job = some o) : Std g l yX11_isWanted (.code yX11_isWanted cX11_isWanted 4 (some .boolean) :: gw) rm_X11_isWanted A [.ref (q 0), .int p0] (wM g q m_thrown m_length m_at m_fault m_toldWords m_orders m_value m_hasUnit m_places m_clocks m_held m_x m_y m_z m_first m_second m_aside m_jobs m_jobsImage m_clocksImage m_heldImage m_hasImage m_tape m_read m_order m_width m_guard m_points m_stages m_gain m_undo m_near m_quarter m_ln m_angle m_shift m_digit m_refused m_job m_jobKept m_result m_resultKept m_trace m_traceKept m_jobImage m_resultImage m_traceImage) (wM g q m_thrown m_length m_at m_fault m_toldWords m_orders m_value m_hasUnit m_places m_clocks m_held m_x m_y m_z m_first m_second m_aside m_jobs m_jobsImage m_clocksImage m_heldImage m_hasImage m_tape m_read m_order m_width m_guard m_points m_stages m_gain m_undo m_near m_quarter m_ln m_angle m_shift m_digit m_refused m_job m_jobKept m_result m_resultKept m_trace m_traceKept m_jobImage m_resultImage m_traceImage) (some (.int (bI o))) := by
  refine std_z (own := RX11) (by decide +kernel) rfl (Nat.le_of_ble_eq_true rfl) ?_
  intro p e s m args below meth c Q X ret H locs hP hS ls hl
  have hx := X.1
  have hb := X.2.1
  have hl : lv_has ls 4 [(0, .ref (q 0)), (1, .int p0)] := hl
  have ret : ∀ {H : Heap} {locs : List Loc} {pc : Nat} {ls : Array Slot} {v : Bool} , some (v) = some o → WP g A (wM g q m_thrown m_length m_at m_fault m_toldWords m_orders m_value m_hasUnit m_places m_clocks m_held m_x m_y m_z m_first m_second m_aside m_jobs m_jobsImage m_clocksImage m_heldImage m_hasImage m_tape m_read m_order m_width m_guard m_points m_stages m_gain m_undo m_near m_quarter m_ln m_angle m_shift m_digit m_refused m_job m_jobKept m_result m_resultKept m_trace m_traceKept m_jobImage m_resultImage m_traceImage) H → va_S A s.heap H locs → decode cX11_isWanted pc = .ok (.ireturn, 1) → W p l e rm_X11_isWanted s m args below meth c H locs 0 0 Q (F0 m pc ls [.int (bI v)]) := by
    intro H locs pc ls v h hP hS hd
    cases h
    exact ret hP hS hd
  have b67 : ∀ (k4 : Int32 → Int32 → Option (Bool)) (hk4 : ∀ (x1 : Int32) (x2 : Int32) (H : Heap) (locs : List Loc) (ls : Array Slot), k4 x1 x2 = some o → WP g A (wM g q m_thrown m_length m_at m_fault m_toldWords m_orders m_value m_hasUnit m_places m_clocks m_held m_x m_y m_z m_first m_second m_aside m_jobs m_jobsImage m_clocksImage m_heldImage m_hasImage m_tape m_read m_order m_width m_guard m_points m_stages m_gain m_undo m_near m_quarter m_ln m_angle m_shift m_digit m_refused m_job m_jobKept m_result m_resultKept m_trace m_traceKept m_jobImage m_resultImage m_traceImage) H → va_S A s.heap H locs → lv_has ls 4 [(0, .ref (q 0)), (1, .int x1), (2, .int x2)] → W p l e rm_X11_isWanted s m args below meth c H locs 0 0 Q (F0 m 4 ls [])) , ∀ (x1 : Int32) (x2 : Int32) (H : Heap) (locs : List Loc) (ls : Array Slot), f_X11_isWanted_b67  m_jobs m_job k4 x1 x2 = some o → WP g A (wM g q m_thrown m_length m_at m_fault m_toldWords m_orders m_value m_hasUnit m_places m_clocks m_held m_x m_y m_z m_first m_second m_aside m_jobs m_jobsImage m_clocksImage m_heldImage m_hasImage m_tape m_read m_order m_width m_guard m_points m_stages m_gain m_undo m_near m_quarter m_ln m_angle m_shift m_digit m_refused m_job m_jobKept m_result m_resultKept m_trace m_traceKept m_jobImage m_resultImage m_traceImage) H → va_S A s.heap H locs → lv_has ls 4 [(0, .ref (q 0)), (1, .int x1), (2, .int x2)] → W p l e rm_X11_isWanted s m args below meth c H locs 0 0 Q (F0 m 67 ls []) := by
    intro k4 hk4 x1 x2 H locs ls h hP hS hl
    unfold f_X11_isWanted_b67 at h
    obtain ⟨v3, ev3⟩ : ∃ z : Int32, z = (x2 + 1) := ⟨_, rfl⟩
    have h := lt_at ev3 h
    refine lv_iinc (v := v3) (lv' := [(2, .int v3), (0, .ref (q 0)), (1, .int x1)]) hx hb dX11_isWanted_67 hl (k := 2) rfl (by rw [ev3]; rfl) (by decide) rfl (fun ls hl => ?_)
    refine lv_goto (tgt := 4) hx hb dX11_isWanted_70 rfl ?_
    exact hk4 x1 v3 _ _ _ h hP hS (lv_sub hl [1, 2, 0] rfl)
  have b61 : ∀ (k4 : Int32 → Int32 → Option (Bool)) (hk4 : ∀ (x1 : Int32) (x2 : Int32) (H : Heap) (locs : List Loc) (ls : Array Slot), k4 x1 x2 = some o → WP g A (wM g q m_thrown m_length m_at m_fault m_toldWords m_orders m_value m_hasUnit m_places m_clocks m_held m_x m_y m_z m_first m_second m_aside m_jobs m_jobsImage m_clocksImage m_heldImage m_hasImage m_tape m_read m_order m_width m_guard m_points m_stages m_gain m_undo m_near m_quarter m_ln m_angle m_shift m_digit m_refused m_job m_jobKept m_result m_resultKept m_trace m_traceKept m_jobImage m_resultImage m_traceImage) H → va_S A s.heap H locs → lv_has ls 4 [(0, .ref (q 0)), (1, .int x1), (2, .int x2)] → W p l e rm_X11_isWanted s m args below meth c H locs 0 0 Q (F0 m 4 ls [])) (k26 : Int32 → Int32 → Int32 → Option (Bool)) (hk26 : ∀ (x1 : Int32) (x2 : Int32) (x3 : Int32) (H : Heap) (locs : List Loc) (ls : Array Slot), k26 x1 x2 x3 = some o → WP g A (wM g q m_thrown m_length m_at m_fault m_toldWords m_orders m_value m_hasUnit m_places m_clocks m_held m_x m_y m_z m_first m_second m_aside m_jobs m_jobsImage m_clocksImage m_heldImage m_hasImage m_tape m_read m_order m_width m_guard m_points m_stages m_gain m_undo m_near m_quarter m_ln m_angle m_shift m_digit m_refused m_job m_jobKept m_result m_resultKept m_trace m_traceKept m_jobImage m_resultImage m_traceImage) H → va_S A s.heap H locs → lv_has ls 4 [(0, .ref (q 0)), (1, .int x1), (2, .int x2), (3, .int x3)] → W p l e rm_X11_isWanted s m args below meth c H locs 0 0 Q (F0 m 26 ls [])) , ∀ (x1 : Int32) (x2 : Int32) (x3 : Int32) (H : Heap) (locs : List Loc) (ls : Array Slot), f_X11_isWanted_b61  m_jobs m_job k4 k26 x1 x2 x3 = some o → WP g A (wM g q m_thrown m_length m_at m_fault m_toldWords m_orders m_value m_hasUnit m_places m_clocks m_held m_x m_y m_z m_first m_second m_aside m_jobs m_jobsImage m_clocksImage m_heldImage m_hasImage m_tape m_read m_order m_width m_guard m_points m_stages m_gain m_undo m_near m_quarter m_ln m_angle m_shift m_digit m_refused m_job m_jobKept m_result m_resultKept m_trace m_traceKept m_jobImage m_resultImage m_traceImage) H → va_S A s.heap H locs → lv_has ls 4 [(0, .ref (q 0)), (1, .int x1), (2, .int x2), (3, .int x3)] → W p l e rm_X11_isWanted s m args below meth c H locs 0 0 Q (F0 m 61 ls []) := by
    intro k4 hk4 k26 hk26 x1 x2 x3 H locs ls h hP hS hl
    unfold f_X11_isWanted_b61 at h
    obtain ⟨v5, ev5⟩ : ∃ z : Int32, z = (x3 + 1) := ⟨_, rfl⟩
    have h := lt_at ev5 h
    refine lv_iinc (v := v5) (lv' := [(3, .int v5), (0, .ref (q 0)), (1, .int x1), (2, .int x2)]) hx hb dX11_isWanted_61 hl (k := 3) rfl (by rw [ev5]; rfl) (by decide) rfl (fun ls hl => ?_)
    refine lv_goto (tgt := 26) hx hb dX11_isWanted_64 rfl ?_
    exact hk26 x1 x2 v5 _ _ _ h hP hS (lv_sub hl [1, 2, 3, 0] rfl)
  have l26 : ∀ (k4 : Int32 → Int32 → Option (Bool)) (hk4 : ∀ (x1 : Int32) (x2 : Int32) (H : Heap) (locs : List Loc) (ls : Array Slot), k4 x1 x2 = some o → WP g A (wM g q m_thrown m_length m_at m_fault m_toldWords m_orders m_value m_hasUnit m_places m_clocks m_held m_x m_y m_z m_first m_second m_aside m_jobs m_jobsImage m_clocksImage m_heldImage m_hasImage m_tape m_read m_order m_width m_guard m_points m_stages m_gain m_undo m_near m_quarter m_ln m_angle m_shift m_digit m_refused m_job m_jobKept m_result m_resultKept m_trace m_traceKept m_jobImage m_resultImage m_traceImage) H → va_S A s.heap H locs → lv_has ls 4 [(0, .ref (q 0)), (1, .int x1), (2, .int x2)] → W p l e rm_X11_isWanted s m args below meth c H locs 0 0 Q (F0 m 4 ls [])) (n : Nat), ∀ (x1 : Int32) (x2 : Int32) (x3 : Int32) (H : Heap) (locs : List Loc) (ls : Array Slot), f_X11_isWanted_l26  m_jobs m_job k4 n x1 x2 x3 = some o → WP g A (wM g q m_thrown m_length m_at m_fault m_toldWords m_orders m_value m_hasUnit m_places m_clocks m_held m_x m_y m_z m_first m_second m_aside m_jobs m_jobsImage m_clocksImage m_heldImage m_hasImage m_tape m_read m_order m_width m_guard m_points m_stages m_gain m_undo m_near m_quarter m_ln m_angle m_shift m_digit m_refused m_job m_jobKept m_result m_resultKept m_trace m_traceKept m_jobImage m_resultImage m_traceImage) H → va_S A s.heap H locs → lv_has ls 4 [(0, .ref (q 0)), (1, .int x1), (2, .int x2), (3, .int x3)] → W p l e rm_X11_isWanted s m args below meth c H locs 0 0 Q (F0 m 26 ls []) := by
    intro k4 hk4 n
    induction n with
    | zero =>
      intro x1 x2 x3 H locs ls h
      exact nz_of h
    | succ n ih =>
      intro x1 x2 x3 H locs ls h hP hS hl
      rw [f_X11_isWanted_l26] at h
      refine lv_iload_n hx hb dX11_isWanted_26 rfl (lv_at hl 3 rfl) ?_
      refine lv_iconst (v := 3) hx hb dX11_isWanted_27 rfl ?_
      refine lv_icmp_ge (tgt := 67) hx hb dX11_isWanted_28 rfl (fun c28 => ?_) (fun c28 => ?_)
      · have h := br_p c28 h
        exact b67 k4 hk4  x1 x2 _ _ _ h hP hS (lv_sub hl [0, 1, 2] rfl)
      · have h := br_n c28 h
        refine lv_aload_n hx hb dX11_isWanted_31 rfl (lv_at hl 0 rfl) ?_
        refine lv_iload_n hx hb dX11_isWanted_32 rfl (lv_at hl 2 rfl) ?_
        refine lv_bipush (v := 10) hx hb dX11_isWanted_33 rfl ?_
        refine lv_iload_n hx hb dX11_isWanted_35 rfl (lv_at hl 3 rfl) ?_
        refine lv_iadd hx hb dX11_isWanted_36 ?_
        obtain ⟨o4, hco4, h⟩ := bd_of h
        refine kV (rest := []) X dX11_isWanted_37 wd_7_78 mw_X11_of wd_7_80 wp_9_3 hP (k0 := 0) rfl rfl rfl hS (fun _ z => z) (c_X11_of hco4) rfl hl.1 rfl (Nat.le_of_ble_eq_true rfl) rfl rfl ⟨Nat.le_of_ble_eq_true rfl, Nat.le_of_ble_eq_true rfl⟩ (fun H locs hP _ _ hS => ?_)
        refine W.eq (g2 := F0 m 40 ls [.int o4]) rfl ?_
        refine lv_iconst (v := (-1)) hx hb dX11_isWanted_40 rfl ?_
        refine lv_icmp_eq (tgt := 61) hx hb dX11_isWanted_41 rfl (fun c41 => ?_) (fun c41 => ?_)
        · have h := br_p c41 h
          exact b61 k4 hk4 (f_X11_isWanted_l26  m_jobs m_job k4 n) ih  x1 x2 x3 _ _ _ h hP hS (lv_sub hl [0, 1, 2, 3] rfl)
        · have h := br_n c41 h
          refine lv_aload_n hx hb dX11_isWanted_44 rfl (lv_at hl 0 rfl) ?_
          refine lv_iload_n hx hb dX11_isWanted_45 rfl (lv_at hl 2 rfl) ?_
          refine lv_bipush (v := 10) hx hb dX11_isWanted_46 rfl ?_
          refine lv_iload_n hx hb dX11_isWanted_48 rfl (lv_at hl 3 rfl) ?_
          refine lv_iadd hx hb dX11_isWanted_49 ?_
          obtain ⟨o6, hco6, h⟩ := bd_of h
          refine kV (rest := []) X dX11_isWanted_50 wd_7_78 mw_X11_of wd_7_80 wp_9_3 hP (k0 := 0) rfl rfl rfl hS (fun _ z => z) (c_X11_of hco6) rfl hl.1 rfl (Nat.le_of_ble_eq_true rfl) rfl rfl ⟨Nat.le_of_ble_eq_true rfl, Nat.le_of_ble_eq_true rfl⟩ (fun H locs hP _ _ hS => ?_)
          refine W.eq (g2 := F0 m 53 ls [.int o6]) rfl ?_
          refine lv_iconst (v := 2) hx hb dX11_isWanted_53 rfl ?_
          obtain ⟨cz54, h⟩ := gz_of h
          refine lv_idiv hx hb dX11_isWanted_54 cz54 ?_
          refine lv_iload_n hx hb dX11_isWanted_55 rfl (lv_at hl 1 rfl) ?_
          refine lv_icmp_ne (tgt := 61) hx hb dX11_isWanted_56 rfl (fun c56 => ?_) (fun c56 => ?_)
          · have h := br_n c56 h
            exact b61 k4 hk4 (f_X11_isWanted_l26  m_jobs m_job k4 n) ih  x1 x2 x3 _ _ _ h hP hS (lv_sub hl [0, 1, 2, 3] rfl)
          · have h := br_p c56 h
            refine lv_iconst (v := 1) hx hb dX11_isWanted_59 rfl ?_
            exact ret h hP hS dX11_isWanted_60
  have l4 : ∀ (n : Nat), ∀ (x1 : Int32) (x2 : Int32) (H : Heap) (locs : List Loc) (ls : Array Slot), f_X11_isWanted_l4  m_jobs m_job  n x1 x2 = some o → WP g A (wM g q m_thrown m_length m_at m_fault m_toldWords m_orders m_value m_hasUnit m_places m_clocks m_held m_x m_y m_z m_first m_second m_aside m_jobs m_jobsImage m_clocksImage m_heldImage m_hasImage m_tape m_read m_order m_width m_guard m_points m_stages m_gain m_undo m_near m_quarter m_ln m_angle m_shift m_digit m_refused m_job m_jobKept m_result m_resultKept m_trace m_traceKept m_jobImage m_resultImage m_traceImage) H → va_S A s.heap H locs → lv_has ls 4 [(0, .ref (q 0)), (1, .int x1), (2, .int x2)] → W p l e rm_X11_isWanted s m args below meth c H locs 0 0 Q (F0 m 4 ls []) := by
    intro  n
    induction n with
    | zero =>
      intro x1 x2 H locs ls h
      exact nz_of h
    | succ n ih =>
      intro x1 x2 H locs ls h hP hS hl
      rw [f_X11_isWanted_l4] at h
      refine lv_iload_n hx hb dX11_isWanted_4 rfl (lv_at hl 2 rfl) ?_
      refine lv_aload_n hx hb dX11_isWanted_5 rfl (lv_at hl 0 rfl) ?_
      refine gf_X11_273_M_0 X hP dX11_isWanted_6 ?_
      refine lv_icmp_ge (tgt := 73) hx hb dX11_isWanted_9 rfl (fun c9 => ?_) (fun c9 => ?_)
      · have h := br_p c9 h
        refine lv_iconst (v := 0) hx hb dX11_isWanted_73 rfl ?_
        exact ret h hP hS dX11_isWanted_74
      · have h := br_n c9 h
        refine lv_aload_n hx hb dX11_isWanted_12 rfl (lv_at hl 0 rfl) ?_
        refine lv_iload_n hx hb dX11_isWanted_13 rfl (lv_at hl 2 rfl) ?_
        refine lv_iconst (v := 4) hx hb dX11_isWanted_14 rfl ?_
        obtain ⟨o2, hco2, h⟩ := bd_of h
        refine kV (rest := []) X dX11_isWanted_15 wd_7_78 mw_X11_of wd_7_80 wp_9_3 hP (k0 := 0) rfl rfl rfl hS (fun _ z => z) (c_X11_of hco2) rfl hl.1 rfl (Nat.le_of_ble_eq_true rfl) rfl rfl ⟨Nat.le_of_ble_eq_true rfl, Nat.le_of_ble_eq_true rfl⟩ (fun H locs hP _ _ hS => ?_)
        refine W.eq (g2 := F0 m 18 ls [.int o2]) rfl ?_
        refine lv_if_eq (tgt := 24) hx hb dX11_isWanted_18 rfl (fun c18 => ?_) (fun c18 => ?_)
        · have h := br_p c18 h
          refine lv_iconst (v := 0) hx hb dX11_isWanted_24 rfl ?_
          refine lv_istore_n (lv' := [(3, .int 0), (0, .ref (q 0)), (1, .int x1), (2, .int x2)]) hx hb dX11_isWanted_25 rfl hl (by decide) rfl (fun ls hl => ?_)
          exact l26 (f_X11_isWanted_l4  m_jobs m_job  n) ih FU x1 x2 (0 : Int32) _ _ _ h hP hS (lv_sub hl [1, 2, 3, 0] rfl)
        · have h := br_n c18 h
          refine lv_goto (tgt := 67) hx hb dX11_isWanted_21 rfl ?_
          exact b67 (f_X11_isWanted_l4  m_jobs m_job  n) ih  x1 x2 _ _ _ h hP hS (lv_sub hl [0, 1, 2] rfl)
  unfold f_X11_isWanted at h
  refine lv_iload_n hx hb dX11_isWanted_0 rfl (lv_at hl 1 rfl) ?_
  refine lv_iconst (v := 1) hx hb dX11_isWanted_1 rfl ?_
  refine lv_iadd hx hb dX11_isWanted_2 ?_
  refine lv_topi (fun v1 ev1 => ?_)
  have h := lt_at ev1 h
  refine lv_istore_n (lv' := [(2, .int v1), (0, .ref (q 0)), (1, .int p0)]) hx hb dX11_isWanted_3 rfl hl (by decide) rfl (fun ls hl => ?_)
  exact l4  FU p0 v1 _ _ _ h hP hS (lv_sub hl [1, 2, 0] rfl)
abbrev rm_X11_drop : Room := { frames := 2, cells := 0, slots := 0, locals := 46 }
set_option maxRecDepth 100000 in
set_option maxHeartbeats 4000000 in
theorem c_X11_drop {g : gT} {l : Launch} {A : Nat → Prop} {q : Nat → Nat} {m_thrown : Int32} {m_length : Int32} {m_at : Int32} {m_fault : Int32} {m_toldWords : Int32} {m_orders : Int32} {m_value : Int32} {m_hasUnit : Bool} {m_places : Int32} {m_clocks : Int32} {m_held : Bool} {m_x : Int64} {m_y : Int64} {m_z : Int64} {m_first : Int64} {m_second : Int64} {m_aside : Int32} {m_jobs : Int32} {m_jobsImage : Int32} {m_clocksImage : Int32} {m_heldImage : Bool} {m_hasImage : Bool} {m_tape : Nat → Int32} {m_read : Nat → Int32} {m_order : Nat → Int32} {m_width : Nat → Int32} {m_guard : Nat → Int32} {m_points : Nat → Int32} {m_stages : Nat → Int32} {m_gain : Nat → Int32} {m_undo : Nat → Int32} {m_near : Nat → Bool} {m_quarter : Nat → Int64} {m_ln : Nat → Int64} {m_angle : Nat → Int64} {m_shift : Nat → Int32} {m_digit : Nat → Int32} {m_refused : Nat → Int32} {m_job : Nat → Int32} {m_jobKept : Nat → Int32} {m_result : Nat → Int32} {m_resultKept : Nat → Int32} {m_trace : Nat → Int64} {m_traceKept : Nat → Int64} {m_jobImage : Nat → Int32} {m_resultImage : Nat → Int32} {m_traceImage : Nat → Int64} {p0 : Int32} {o : Bool × Int32 × (Nat → Int32) × (Nat → Int32)} (h : f_X11_drop p0 m_thrown m_hasUnit m_jobs m_refused m_job = some o) : Std g l yX11_drop (.code yX11_drop cX11_drop 4 (some .boolean) :: gw) rm_X11_drop A [.ref (q 0), .int p0] (wM g q m_thrown m_length m_at m_fault m_toldWords m_orders m_value m_hasUnit m_places m_clocks m_held m_x m_y m_z m_first m_second m_aside m_jobs m_jobsImage m_clocksImage m_heldImage m_hasImage m_tape m_read m_order m_width m_guard m_points m_stages m_gain m_undo m_near m_quarter m_ln m_angle m_shift m_digit m_refused m_job m_jobKept m_result m_resultKept m_trace m_traceKept m_jobImage m_resultImage m_traceImage) (wM g q o.2.1 m_length m_at m_fault m_toldWords m_orders m_value m_hasUnit m_places m_clocks m_held m_x m_y m_z m_first m_second m_aside m_jobs m_jobsImage m_clocksImage m_heldImage m_hasImage m_tape m_read m_order m_width m_guard m_points m_stages m_gain m_undo m_near m_quarter m_ln m_angle m_shift m_digit o.2.2.1 o.2.2.2 m_jobKept m_result m_resultKept m_trace m_traceKept m_jobImage m_resultImage m_traceImage) (some (.int (bI o.1))) := by
  refine std_z (own := RX11) (by decide +kernel) rfl (Nat.le_of_ble_eq_true rfl) ?_
  intro p e s m args below meth c Q X ret H locs hP hS ls hl
  have hx := X.1
  have hb := X.2.1
  have hl : lv_has ls 4 [(0, .ref (q 0)), (1, .int p0)] := hl
  have ret : ∀ {H : Heap} {locs : List Loc} {pc : Nat} {ls : Array Slot} {v : Bool} {m_thrown : Int32} {m_refused : Nat → Int32} {m_job : Nat → Int32}, some (v, m_thrown, m_refused, m_job) = some o → WP g A (wM g q m_thrown m_length m_at m_fault m_toldWords m_orders m_value m_hasUnit m_places m_clocks m_held m_x m_y m_z m_first m_second m_aside m_jobs m_jobsImage m_clocksImage m_heldImage m_hasImage m_tape m_read m_order m_width m_guard m_points m_stages m_gain m_undo m_near m_quarter m_ln m_angle m_shift m_digit m_refused m_job m_jobKept m_result m_resultKept m_trace m_traceKept m_jobImage m_resultImage m_traceImage) H → va_S A s.heap H locs → decode cX11_drop pc = .ok (.ireturn, 1) → W p l e rm_X11_drop s m args below meth c H locs 0 0 Q (F0 m pc ls [.int (bI v)]) := by
    intro H locs pc ls v m_thrown m_refused m_job h hP hS hd
    cases h
    exact ret hP hS hd
  have b35 : ∀ (x1 : Int32) (t0 : Bool) (m_thrown : Int32) (m_refused : Nat → Int32) (m_job : Nat → Int32) (H : Heap) (locs : List Loc) (ls : Array Slot), f_X11_drop_b35  m_hasUnit m_jobs  x1 t0 m_thrown m_refused m_job = some o → WP g A (wM g q m_thrown m_length m_at m_fault m_toldWords m_orders m_value m_hasUnit m_places m_clocks m_held m_x m_y m_z m_first m_second m_aside m_jobs m_jobsImage m_clocksImage m_heldImage m_hasImage m_tape m_read m_order m_width m_guard m_points m_stages m_gain m_undo m_near m_quarter m_ln m_angle m_shift m_digit m_refused m_job m_jobKept m_result m_resultKept m_trace m_traceKept m_jobImage m_resultImage m_traceImage) H → va_S A s.heap H locs → lv_has ls 4 [(0, .ref (q 0)), (1, .int x1)] → W p l e rm_X11_drop s m args below meth c H locs 0 0 Q (F0 m 35 ls [.int (bI t0)]) := by
    intro  x1 t0 m_thrown m_refused m_job H locs ls h hP hS hl
    unfold f_X11_drop_b35 at h
    refine lv_istore_n (lv' := [(2, .int (bI t0)), (0, .ref (q 0)), (1, .int x1)]) hx hb dX11_drop_35 rfl hl (by decide) rfl (fun ls hl => ?_)
    refine lv_iload_n hx hb dX11_drop_36 rfl (lv_at hl 0 rfl) ?_
    refine rb_ne (tgt := 60) hx hb dX11_drop_37 rfl (fun c37 => ?_) (fun c37 => ?_)
    · have h := br_p c37 h
      refine lv_aload_n hx hb dX11_drop_60 rfl (lv_at hl 1 rfl) ?_
      refine gf_X11_226_M_0 X hP dX11_drop_61 ?_
      refine lv_bipush (v := 14) hx hb dX11_drop_64 rfl ?_
      refine lv_iload_n hx hb dX11_drop_66 rfl (lv_at hl 2 rfl) ?_
      refine lv_imul hx hb dX11_drop_67 ?_
      refine lv_iconst (v := 4) hx hb dX11_drop_68 rfl ?_
      refine lv_iadd hx hb dX11_drop_69 ?_
      refine lv_iconst (v := 3) hx hb dX11_drop_70 rfl ?_
      obtain ⟨hi71, h⟩ := gv_of h
      refine as_M_17 (v0 := (3 : Int32)) X hP hS hi71 dX11_drop_71 (fun H locs hP hS => ?_)
      refine lv_iconst (v := 1) hx hb dX11_drop_72 rfl ?_
      exact ret h hP hS dX11_drop_73
    · have h := br_n c37 h
      refine lv_aload_n hx hb dX11_drop_40 rfl (lv_at hl 1 rfl) ?_
      refine lv_aload_n hx hb dX11_drop_41 rfl (lv_at hl 1 rfl) ?_
      refine lv_iload_n hx hb dX11_drop_42 rfl (lv_at hl 2 rfl) ?_
      obtain ⟨o2, hco2, h⟩ := bd_of h
      refine kV (rest := [.ref (q 0)]) X dX11_drop_43 wd_7_74 mw_X11_isJob wd_7_76 wp_9_2 hP (k0 := 0) rfl rfl rfl hS (fun _ z => z) (c_X11_isJob hco2) rfl hl.1 rfl (Nat.le_of_ble_eq_true rfl) rfl rfl ⟨Nat.le_of_ble_eq_true rfl, Nat.le_of_ble_eq_true rfl⟩ (fun H locs hP _ _ hS => ?_)
      refine W.eq (g2 := F0 m 46 ls [.int (bI o2), .ref (q 0)]) rfl ?_
      refine jx1 h (P := fun (v3 : Int32) => ∀ ls : Array Slot, lv_has ls 4 [] → W p l e rm_X11_drop s m args below meth c H locs 0 0 Q (F0 m 54 ls [.int v3, .ref (q 0)])) ?_ ?_
      · intro v3 h ls hl
        obtain ⟨o4, hco4, h⟩ := bd_of h
        refine kV (rest := []) X dX11_drop_54 wd_7_50 mw_X11_refuse wd_7_52 wp_8_14 hP (k0 := 0) rfl rfl rfl hS (fun _ z => z) (c_X11_refuse hco4) rfl hl.1 rfl (Nat.le_of_ble_eq_true rfl) rfl rfl ⟨Nat.le_of_ble_eq_true rfl, Nat.le_of_ble_eq_true rfl⟩ (fun H locs hP _ _ hS => ?_)
        refine W.eq (g2 := F0 m 57 ls [.int o4.1]) rfl ?_
        refine lv_istore_n (lv' := [(3, .int o4.1)]) hx hb dX11_drop_57 rfl hl (by decide) rfl (fun ls hl => ?_)
        refine lv_iconst (v := 0) hx hb dX11_drop_58 rfl ?_
        exact ret h hP hS dX11_drop_59
      · intro J h
        refine rb_eq (tgt := 53) hx hb dX11_drop_46 rfl (fun c46 => ?_) (fun c46 => ?_)
        · refine lv_iconst (v := 0) hx hb dX11_drop_53 rfl ?_
          exact J _ (lt_in c46 h) ls (lv_sub hl [] rfl)
        · refine lv_iconst (v := 3) hx hb dX11_drop_49 rfl ?_
          refine lv_goto (tgt := 54) hx hb dX11_drop_50 rfl ?_
          exact J _ (lt_ip c46 h) ls (lv_sub hl [] rfl)
  have b34 : ∀ (x1 : Int32) (m_thrown : Int32) (m_refused : Nat → Int32) (m_job : Nat → Int32) (H : Heap) (locs : List Loc) (ls : Array Slot), f_X11_drop_b34  m_hasUnit m_jobs  x1 m_thrown m_refused m_job = some o → WP g A (wM g q m_thrown m_length m_at m_fault m_toldWords m_orders m_value m_hasUnit m_places m_clocks m_held m_x m_y m_z m_first m_second m_aside m_jobs m_jobsImage m_clocksImage m_heldImage m_hasImage m_tape m_read m_order m_width m_guard m_points m_stages m_gain m_undo m_near m_quarter m_ln m_angle m_shift m_digit m_refused m_job m_jobKept m_result m_resultKept m_trace m_traceKept m_jobImage m_resultImage m_traceImage) H → va_S A s.heap H locs → lv_has ls 4 [(0, .ref (q 0)), (1, .int x1)] → W p l e rm_X11_drop s m args below meth c H locs 0 0 Q (F0 m 34 ls []) := by
    intro  x1 m_thrown m_refused m_job H locs ls h hP hS hl
    unfold f_X11_drop_b34 at h
    refine lv_iconst (v := 0) hx hb dX11_drop_34 rfl ?_
    exact b35   x1 false m_thrown m_refused m_job _ _ _ h hP hS (lv_sub hl [0, 1] rfl)
  unfold f_X11_drop at h
  refine lv_aload_n hx hb dX11_drop_0 rfl (lv_at hl 0 rfl) ?_
  refine lv_iconst (v := 0) hx hb dX11_drop_1 rfl ?_
  refine pf_X11_5_M_0 (v0 := (0 : Int32)) X hP hS dX11_drop_2 (fun H locs hP hS => ?_)
  refine lv_aload_n hx hb dX11_drop_5 rfl (lv_at hl 0 rfl) ?_
  refine lv_iload_n hx hb dX11_drop_6 rfl (lv_at hl 1 rfl) ?_
  obtain ⟨o1, hco1, h⟩ := bd_of h
  refine kV (rest := []) X dX11_drop_7 wd_7_74 mw_X11_isJob wd_7_76 wp_9_2 hP (k0 := 0) rfl rfl rfl hS (fun _ z => z) (c_X11_isJob hco1) rfl hl.1 rfl (Nat.le_of_ble_eq_true rfl) rfl rfl ⟨Nat.le_of_ble_eq_true rfl, Nat.le_of_ble_eq_true rfl⟩ (fun H locs hP _ _ hS => ?_)
  refine W.eq (g2 := F0 m 10 ls [.int (bI o1)]) rfl ?_
  refine rb_eq (tgt := 34) hx hb dX11_drop_10 rfl (fun c10 => ?_) (fun c10 => ?_)
  · have h := br_n c10 h
    exact b34   p0 (0 : Int32) m_refused m_job _ _ _ h hP hS (lv_sub hl [0, 1] rfl)
  · have h := br_p c10 h
    refine lv_aload_n hx hb dX11_drop_13 rfl (lv_at hl 0 rfl) ?_
    refine lv_iload_n hx hb dX11_drop_14 rfl (lv_at hl 1 rfl) ?_
    refine lv_iconst (v := 4) hx hb dX11_drop_15 rfl ?_
    obtain ⟨o5, hco5, h⟩ := bd_of h
    refine kV (rest := []) X dX11_drop_16 wd_7_78 mw_X11_of wd_7_80 wp_9_3 hP (k0 := 0) rfl rfl rfl hS (fun _ z => z) (c_X11_of hco5) rfl hl.1 rfl (Nat.le_of_ble_eq_true rfl) rfl rfl ⟨Nat.le_of_ble_eq_true rfl, Nat.le_of_ble_eq_true rfl⟩ (fun H locs hP _ _ hS => ?_)
    refine W.eq (g2 := F0 m 19 ls [.int o5]) rfl ?_
    refine lv_if_ne (tgt := 34) hx hb dX11_drop_19 rfl (fun c19 => ?_) (fun c19 => ?_)
    · have h := br_n c19 h
      exact b34   p0 (0 : Int32) m_refused m_job _ _ _ h hP hS (lv_sub hl [0, 1] rfl)
    · have h := br_p c19 h
      refine lv_aload_n hx hb dX11_drop_22 rfl (lv_at hl 0 rfl) ?_
      refine lv_iload_n hx hb dX11_drop_23 rfl (lv_at hl 1 rfl) ?_
      obtain ⟨o6, hco6, h⟩ := bd_of h
      refine kV (rest := []) X dX11_drop_24 wd_7_82 mw_X11_isWanted wd_7_84 wp_9_4 hP (k0 := 0) rfl rfl rfl hS (fun _ z => z) (c_X11_isWanted hco6) rfl hl.1 rfl (Nat.le_of_ble_eq_true rfl) rfl rfl ⟨Nat.le_of_ble_eq_true rfl, Nat.le_of_ble_eq_true rfl⟩ (fun H locs hP _ _ hS => ?_)
      refine W.eq (g2 := F0 m 27 ls [.int (bI o6)]) rfl ?_
      refine jx1 h (P := fun (v7 : Bool) => ∀ ls : Array Slot, lv_has ls 4 [(0, .ref (q 0)), (1, .int p0)] → W p l e rm_X11_drop s m args below meth c H locs 0 0 Q (F0 m 35 ls [.int (bI v7)])) ?_ ?_
      · intro v7 h ls hl
        refine lv_istore_n (lv' := [(2, .int (bI v7)), (0, .ref (q 0)), (1, .int p0)]) hx hb dX11_drop_35 rfl hl (by decide) rfl (fun ls hl => ?_)
        refine lv_iload_n hx hb dX11_drop_36 rfl (lv_at hl 0 rfl) ?_
        refine rb_ne (tgt := 60) hx hb dX11_drop_37 rfl (fun c37 => ?_) (fun c37 => ?_)
        · have h := br_p c37 h
          refine lv_aload_n hx hb dX11_drop_60 rfl (lv_at hl 1 rfl) ?_
          refine gf_X11_226_M_0 X hP dX11_drop_61 ?_
          refine lv_bipush (v := 14) hx hb dX11_drop_64 rfl ?_
          refine lv_iload_n hx hb dX11_drop_66 rfl (lv_at hl 2 rfl) ?_
          refine lv_imul hx hb dX11_drop_67 ?_
          refine lv_iconst (v := 4) hx hb dX11_drop_68 rfl ?_
          refine lv_iadd hx hb dX11_drop_69 ?_
          refine lv_iconst (v := 3) hx hb dX11_drop_70 rfl ?_
          obtain ⟨hi71, h⟩ := gv_of h
          refine as_M_17 (v0 := (3 : Int32)) X hP hS hi71 dX11_drop_71 (fun H locs hP hS => ?_)
          refine lv_iconst (v := 1) hx hb dX11_drop_72 rfl ?_
          exact ret h hP hS dX11_drop_73
        · have h := br_n c37 h
          refine lv_aload_n hx hb dX11_drop_40 rfl (lv_at hl 1 rfl) ?_
          refine lv_aload_n hx hb dX11_drop_41 rfl (lv_at hl 1 rfl) ?_
          refine lv_iload_n hx hb dX11_drop_42 rfl (lv_at hl 2 rfl) ?_
          obtain ⟨o8, hco8, h⟩ := bd_of h
          refine kV (rest := [.ref (q 0)]) X dX11_drop_43 wd_7_74 mw_X11_isJob wd_7_76 wp_9_2 hP (k0 := 0) rfl rfl rfl hS (fun _ z => z) (c_X11_isJob hco8) rfl hl.1 rfl (Nat.le_of_ble_eq_true rfl) rfl rfl ⟨Nat.le_of_ble_eq_true rfl, Nat.le_of_ble_eq_true rfl⟩ (fun H locs hP _ _ hS => ?_)
          refine W.eq (g2 := F0 m 46 ls [.int (bI o8), .ref (q 0)]) rfl ?_
          refine jx1 h (P := fun (v9 : Int32) => ∀ ls : Array Slot, lv_has ls 4 [] → W p l e rm_X11_drop s m args below meth c H locs 0 0 Q (F0 m 54 ls [.int v9, .ref (q 0)])) ?_ ?_
          · intro v9 h ls hl
            obtain ⟨o10, hco10, h⟩ := bd_of h
            refine kV (rest := []) X dX11_drop_54 wd_7_50 mw_X11_refuse wd_7_52 wp_8_14 hP (k0 := 0) rfl rfl rfl hS (fun _ z => z) (c_X11_refuse hco10) rfl hl.1 rfl (Nat.le_of_ble_eq_true rfl) rfl rfl ⟨Nat.le_of_ble_eq_true rfl, Nat.le_of_ble_eq_true rfl⟩ (fun H locs hP _ _ hS => ?_)
            refine W.eq (g2 := F0 m 57 ls [.int o10.1]) rfl ?_
            refine lv_istore_n (lv' := [(3, .int o10.1)]) hx hb dX11_drop_57 rfl hl (by decide) rfl (fun ls hl => ?_)
            refine lv_iconst (v := 0) hx hb dX11_drop_58 rfl ?_
            exact ret h hP hS dX11_drop_59
          · intro J h
            refine rb_eq (tgt := 53) hx hb dX11_drop_46 rfl (fun c46 => ?_) (fun c46 => ?_)
            · refine lv_iconst (v := 0) hx hb dX11_drop_53 rfl ?_
              exact J _ (lt_in c46 h) ls (lv_sub hl [] rfl)
            · refine lv_iconst (v := 3) hx hb dX11_drop_49 rfl ?_
              refine lv_goto (tgt := 54) hx hb dX11_drop_50 rfl ?_
              exact J _ (lt_ip c46 h) ls (lv_sub hl [] rfl)
      · intro J h
        refine rb_ne (tgt := 34) hx hb dX11_drop_27 rfl (fun c27 => ?_) (fun c27 => ?_)
        · refine lv_iconst (v := 0) hx hb dX11_drop_34 rfl ?_
          exact J _ (lt_ip c27 h) ls (lv_sub hl [0, 1] rfl)
        · refine lv_iconst (v := 1) hx hb dX11_drop_30 rfl ?_
          refine lv_goto (tgt := 35) hx hb dX11_drop_31 rfl ?_
          exact J _ (lt_in c27 h) ls (lv_sub hl [0, 1] rfl)
abbrev rm_X11_link : Room := { frames := 2, cells := 0, slots := 0, locals := 46 }
set_option maxRecDepth 100000 in
set_option maxHeartbeats 4000000 in
theorem c_X11_link {g : gT} {l : Launch} {A : Nat → Prop} {q : Nat → Nat} {m_thrown : Int32} {m_length : Int32} {m_at : Int32} {m_fault : Int32} {m_toldWords : Int32} {m_orders : Int32} {m_value : Int32} {m_hasUnit : Bool} {m_places : Int32} {m_clocks : Int32} {m_held : Bool} {m_x : Int64} {m_y : Int64} {m_z : Int64} {m_first : Int64} {m_second : Int64} {m_aside : Int32} {m_jobs : Int32} {m_jobsImage : Int32} {m_clocksImage : Int32} {m_heldImage : Bool} {m_hasImage : Bool} {m_tape : Nat → Int32} {m_read : Nat → Int32} {m_order : Nat → Int32} {m_width : Nat → Int32} {m_guard : Nat → Int32} {m_points : Nat → Int32} {m_stages : Nat → Int32} {m_gain : Nat → Int32} {m_undo : Nat → Int32} {m_near : Nat → Bool} {m_quarter : Nat → Int64} {m_ln : Nat → Int64} {m_angle : Nat → Int64} {m_shift : Nat → Int32} {m_digit : Nat → Int32} {m_refused : Nat → Int32} {m_job : Nat → Int32} {m_jobKept : Nat → Int32} {m_result : Nat → Int32} {m_resultKept : Nat → Int32} {m_trace : Nat → Int64} {m_traceKept : Nat → Int64} {m_jobImage : Nat → Int32} {m_resultImage : Nat → Int32} {m_traceImage : Nat → Int64} {p0 : Int32} {p1 : Int32} {p2 : Int32} {p3 : Int32} {o : Bool × Int32 × (Nat → Int32) × (Nat → Int32)} (h : f_X11_link p0 p1 p2 p3 m_thrown m_hasUnit m_jobs m_refused m_job = some o) : Std g l yX11_link (.code yX11_link cX11_link 7 (some .boolean) :: gw) rm_X11_link A [.ref (q 0), .int p0, .int p1, .int p2, .int p3] (wM g q m_thrown m_length m_at m_fault m_toldWords m_orders m_value m_hasUnit m_places m_clocks m_held m_x m_y m_z m_first m_second m_aside m_jobs m_jobsImage m_clocksImage m_heldImage m_hasImage m_tape m_read m_order m_width m_guard m_points m_stages m_gain m_undo m_near m_quarter m_ln m_angle m_shift m_digit m_refused m_job m_jobKept m_result m_resultKept m_trace m_traceKept m_jobImage m_resultImage m_traceImage) (wM g q o.2.1 m_length m_at m_fault m_toldWords m_orders m_value m_hasUnit m_places m_clocks m_held m_x m_y m_z m_first m_second m_aside m_jobs m_jobsImage m_clocksImage m_heldImage m_hasImage m_tape m_read m_order m_width m_guard m_points m_stages m_gain m_undo m_near m_quarter m_ln m_angle m_shift m_digit o.2.2.1 o.2.2.2 m_jobKept m_result m_resultKept m_trace m_traceKept m_jobImage m_resultImage m_traceImage) (some (.int (bI o.1))) := by
  refine std_z (own := RX11) (by decide +kernel) rfl (Nat.le_of_ble_eq_true rfl) ?_
  intro p e s m args below meth c Q X ret H locs hP hS ls hl
  have hx := X.1
  have hb := X.2.1
  have hl : lv_has ls 7 [(0, .ref (q 0)), (1, .int p0), (2, .int p1), (3, .int p2), (4, .int p3)] := hl
  have ret : ∀ {H : Heap} {locs : List Loc} {pc : Nat} {ls : Array Slot} {v : Bool} {m_thrown : Int32} {m_refused : Nat → Int32} {m_job : Nat → Int32}, some (v, m_thrown, m_refused, m_job) = some o → WP g A (wM g q m_thrown m_length m_at m_fault m_toldWords m_orders m_value m_hasUnit m_places m_clocks m_held m_x m_y m_z m_first m_second m_aside m_jobs m_jobsImage m_clocksImage m_heldImage m_hasImage m_tape m_read m_order m_width m_guard m_points m_stages m_gain m_undo m_near m_quarter m_ln m_angle m_shift m_digit m_refused m_job m_jobKept m_result m_resultKept m_trace m_traceKept m_jobImage m_resultImage m_traceImage) H → va_S A s.heap H locs → decode cX11_link pc = .ok (.ireturn, 1) → W p l e rm_X11_link s m args below meth c H locs 0 0 Q (F0 m pc ls [.int (bI v)]) := by
    intro H locs pc ls v m_thrown m_refused m_job h hP hS hd
    cases h
    exact ret hP hS hd
  have b71 : ∀ (x1 : Int32) (x2 : Int32) (x3 : Int32) (x4 : Int32) (t0 : Int32) (m_thrown : Int32) (m_refused : Nat → Int32) (m_job : Nat → Int32) (H : Heap) (locs : List Loc) (ls : Array Slot), f_X11_link_b71  m_hasUnit m_jobs  x1 x2 x3 x4 t0 m_thrown m_refused m_job = some o → WP g A (wM g q m_thrown m_length m_at m_fault m_toldWords m_orders m_value m_hasUnit m_places m_clocks m_held m_x m_y m_z m_first m_second m_aside m_jobs m_jobsImage m_clocksImage m_heldImage m_hasImage m_tape m_read m_order m_width m_guard m_points m_stages m_gain m_undo m_near m_quarter m_ln m_angle m_shift m_digit m_refused m_job m_jobKept m_result m_resultKept m_trace m_traceKept m_jobImage m_resultImage m_traceImage) H → va_S A s.heap H locs → lv_has ls 7 [(0, .ref (q 0)), (1, .int x1), (2, .int x2), (3, .int x3), (4, .int x4)] → W p l e rm_X11_link s m args below meth c H locs 0 0 Q (F0 m 71 ls [.int t0]) := by
    intro  x1 x2 x3 x4 t0 m_thrown m_refused m_job H locs ls h hP hS hl
    unfold f_X11_link_b71 at h
    refine lv_istore (lv' := [(5, .int t0), (0, .ref (q 0)), (1, .int x1), (2, .int x2), (3, .int x3), (4, .int x4)]) hx hb dX11_link_71 hl (by decide) rfl (fun ls hl => ?_)
    refine lv_iload hx hb dX11_link_73 (lv_at hl 0 rfl) ?_
    refine lv_iconst (v := (-1)) hx hb dX11_link_75 rfl ?_
    refine lv_icmp_eq (tgt := 89) hx hb dX11_link_76 rfl (fun c76 => ?_) (fun c76 => ?_)
    · have h := br_p c76 h
      refine lv_aload_n hx hb dX11_link_89 rfl (lv_at hl 1 rfl) ?_
      refine gf_X11_226_M_0 X hP dX11_link_90 ?_
      refine lv_bipush (v := 14) hx hb dX11_link_93 rfl ?_
      refine lv_iload_n hx hb dX11_link_95 rfl (lv_at hl 2 rfl) ?_
      refine lv_imul hx hb dX11_link_96 ?_
      refine lv_bipush (v := 10) hx hb dX11_link_97 rfl ?_
      refine lv_iadd hx hb dX11_link_99 ?_
      refine lv_iload_n hx hb dX11_link_100 rfl (lv_at hl 3 rfl) ?_
      refine lv_iadd hx hb dX11_link_101 ?_
      refine lv_iconst (v := 2) hx hb dX11_link_102 rfl ?_
      refine lv_iload_n hx hb dX11_link_103 rfl (lv_at hl 4 rfl) ?_
      refine lv_imul hx hb dX11_link_104 ?_
      refine lv_iload hx hb dX11_link_105 (lv_at hl 5 rfl) ?_
      refine lv_iadd hx hb dX11_link_107 ?_
      refine lv_topi (fun v2 ev2 => ?_)
      have h := lt_at ev2 h
      obtain ⟨hi108, h⟩ := gv_of h
      refine as_M_17 (v0 := v2) X hP hS hi108 dX11_link_108 (fun H locs hP hS => ?_)
      refine lv_aload_n hx hb dX11_link_109 rfl (lv_at hl 1 rfl) ?_
      refine gf_X11_226_M_0 X hP dX11_link_110 ?_
      refine lv_bipush (v := 14) hx hb dX11_link_113 rfl ?_
      refine lv_iload_n hx hb dX11_link_115 rfl (lv_at hl 2 rfl) ?_
      refine lv_imul hx hb dX11_link_116 ?_
      refine lv_iconst (v := 1) hx hb dX11_link_117 rfl ?_
      refine lv_iadd hx hb dX11_link_118 ?_
      refine lv_iload_n hx hb dX11_link_119 rfl (lv_at hl 3 rfl) ?_
      refine lv_iadd hx hb dX11_link_120 ?_
      refine lv_iconst (v := 0) hx hb dX11_link_121 rfl ?_
      obtain ⟨hi122, h⟩ := gv_of h
      refine as_M_17 (v0 := (0 : Int32)) X hP hS hi122 dX11_link_122 (fun H locs hP hS => ?_)
      refine lv_iconst (v := 1) hx hb dX11_link_123 rfl ?_
      exact ret h hP hS dX11_link_124
    · have h := br_n c76 h
      refine lv_aload_n hx hb dX11_link_79 rfl (lv_at hl 1 rfl) ?_
      refine lv_iload hx hb dX11_link_80 (lv_at hl 0 rfl) ?_
      obtain ⟨o3, hco3, h⟩ := bd_of h
      refine kV (rest := []) X dX11_link_82 wd_7_50 mw_X11_refuse wd_7_52 wp_8_14 hP (k0 := 0) rfl rfl rfl hS (fun _ z => z) (c_X11_refuse hco3) rfl hl.1 rfl (Nat.le_of_ble_eq_true rfl) rfl rfl ⟨Nat.le_of_ble_eq_true rfl, Nat.le_of_ble_eq_true rfl⟩ (fun H locs hP _ _ hS => ?_)
      refine W.eq (g2 := F0 m 85 ls [.int o3.1]) rfl ?_
      refine lv_istore (lv' := [(6, .int o3.1), (5, .int t0), (0, .ref (q 0)), (1, .int x1), (2, .int x2), (3, .int x3), (4, .int x4)]) hx hb dX11_link_85 hl (by decide) rfl (fun ls hl => ?_)
      refine lv_iconst (v := 0) hx hb dX11_link_87 rfl ?_
      exact ret h hP hS dX11_link_88
  have b21 : ∀ (x1 : Int32) (x2 : Int32) (x3 : Int32) (x4 : Int32) (m_thrown : Int32) (m_refused : Nat → Int32) (m_job : Nat → Int32) (H : Heap) (locs : List Loc) (ls : Array Slot), f_X11_link_b21  m_hasUnit m_jobs  x1 x2 x3 x4 m_thrown m_refused m_job = some o → WP g A (wM g q m_thrown m_length m_at m_fault m_toldWords m_orders m_value m_hasUnit m_places m_clocks m_held m_x m_y m_z m_first m_second m_aside m_jobs m_jobsImage m_clocksImage m_heldImage m_hasImage m_tape m_read m_order m_width m_guard m_points m_stages m_gain m_undo m_near m_quarter m_ln m_angle m_shift m_digit m_refused m_job m_jobKept m_result m_resultKept m_trace m_traceKept m_jobImage m_resultImage m_traceImage) H → va_S A s.heap H locs → lv_has ls 7 [(0, .ref (q 0)), (1, .int x1), (2, .int x2), (3, .int x3), (4, .int x4)] → W p l e rm_X11_link s m args below meth c H locs 0 0 Q (F0 m 21 ls []) := by
    intro  x1 x2 x3 x4 m_thrown m_refused m_job H locs ls h hP hS hl
    unfold f_X11_link_b21 at h
    refine lv_iconst (v := 0) hx hb dX11_link_21 rfl ?_
    refine lv_goto (tgt := 71) hx hb dX11_link_22 rfl ?_
    exact b71   x1 x2 x3 x4 (0 : Int32) m_thrown m_refused m_job _ _ _ h hP hS (lv_sub hl [0, 1, 2, 3, 4] rfl)
  have b53 : ∀ (x1 : Int32) (x2 : Int32) (x3 : Int32) (x4 : Int32) (m_thrown : Int32) (m_refused : Nat → Int32) (m_job : Nat → Int32) (H : Heap) (locs : List Loc) (ls : Array Slot), f_X11_link_b53  m_hasUnit m_jobs  x1 x2 x3 x4 m_thrown m_refused m_job = some o → WP g A (wM g q m_thrown m_length m_at m_fault m_toldWords m_orders m_value m_hasUnit m_places m_clocks m_held m_x m_y m_z m_first m_second m_aside m_jobs m_jobsImage m_clocksImage m_heldImage m_hasImage m_tape m_read m_order m_width m_guard m_points m_stages m_gain m_undo m_near m_quarter m_ln m_angle m_shift m_digit m_refused m_job m_jobKept m_result m_resultKept m_trace m_traceKept m_jobImage m_resultImage m_traceImage) H → va_S A s.heap H locs → lv_has ls 7 [(0, .ref (q 0)), (1, .int x1), (2, .int x2), (3, .int x3), (4, .int x4)] → W p l e rm_X11_link s m args below meth c H locs 0 0 Q (F0 m 53 ls []) := by
    intro  x1 x2 x3 x4 m_thrown m_refused m_job H locs ls h hP hS hl
    unfold f_X11_link_b53 at h
    refine lv_iconst (v := 1) hx hb dX11_link_53 rfl ?_
    refine lv_goto (tgt := 71) hx hb dX11_link_54 rfl ?_
    exact b71   x1 x2 x3 x4 (1 : Int32) m_thrown m_refused m_job _ _ _ h hP hS (lv_sub hl [0, 1, 2, 3, 4] rfl)
  unfold f_X11_link at h
  refine lv_aload_n hx hb dX11_link_0 rfl (lv_at hl 0 rfl) ?_
  refine lv_iconst (v := 0) hx hb dX11_link_1 rfl ?_
  refine pf_X11_5_M_0 (v0 := (0 : Int32)) X hP hS dX11_link_2 (fun H locs hP hS => ?_)
  refine lv_aload_n hx hb dX11_link_5 rfl (lv_at hl 0 rfl) ?_
  refine lv_iload_n hx hb dX11_link_6 rfl (lv_at hl 1 rfl) ?_
  obtain ⟨o1, hco1, h⟩ := bd_of h
  refine kV (rest := []) X dX11_link_7 wd_7_74 mw_X11_isJob wd_7_76 wp_9_2 hP (k0 := 0) rfl rfl rfl hS (fun _ z => z) (c_X11_isJob hco1) rfl hl.1 rfl (Nat.le_of_ble_eq_true rfl) rfl rfl ⟨Nat.le_of_ble_eq_true rfl, Nat.le_of_ble_eq_true rfl⟩ (fun H locs hP _ _ hS => ?_)
  refine W.eq (g2 := F0 m 10 ls [.int (bI o1)]) rfl ?_
  refine rb_eq (tgt := 21) hx hb dX11_link_10 rfl (fun c10 => ?_) (fun c10 => ?_)
  · have h := br_n c10 h
    exact b21   p0 p1 p2 p3 (0 : Int32) m_refused m_job _ _ _ h hP hS (lv_sub hl [0, 1, 2, 3, 4] rfl)
  · have h := br_p c10 h
    refine lv_aload_n hx hb dX11_link_13 rfl (lv_at hl 0 rfl) ?_
    refine lv_iload_n hx hb dX11_link_14 rfl (lv_at hl 3 rfl) ?_
    obtain ⟨o4, hco4, h⟩ := bd_of h
    refine kV (rest := []) X dX11_link_15 wd_7_74 mw_X11_isJob wd_7_76 wp_9_2 hP (k0 := 0) rfl rfl rfl hS (fun _ z => z) (c_X11_isJob hco4) rfl hl.1 rfl (Nat.le_of_ble_eq_true rfl) rfl rfl ⟨Nat.le_of_ble_eq_true rfl, Nat.le_of_ble_eq_true rfl⟩ (fun H locs hP _ _ hS => ?_)
    refine W.eq (g2 := F0 m 18 ls [.int (bI o4)]) rfl ?_
    refine rb_ne (tgt := 25) hx hb dX11_link_18 rfl (fun c18 => ?_) (fun c18 => ?_)
    · have h := br_p c18 h
      refine lv_iload_n hx hb dX11_link_25 rfl (lv_at hl 2 rfl) ?_
      refine lv_i2l hx hb dX11_link_26 rfl ?_
      refine lv_lconst (v := 0) hx hb dX11_link_27 rfl ?_
      refine lv_ldc2 (v := 2) hx hb X.2.2.2.1 (X.2.2.2.2.1 _ wd_5_201) dX11_link_28 ?_
      obtain ⟨o5, hco5, h⟩ := bd_of h
      refine kS (rest := []) X dX11_link_31 wd_5_153 mw_X11_isIn wd_5_154 hP hS (fun _ z => z) (c_X11_isIn hco5) rfl hl.1 rfl (Nat.le_of_ble_eq_true rfl) rfl rfl ⟨Nat.le_of_ble_eq_true rfl, Nat.le_of_ble_eq_true rfl⟩ (fun H locs hP _ _ hS => ?_)
      refine W.eq (g2 := F0 m 34 ls [.int (bI o5)]) rfl ?_
      refine rb_eq (tgt := 53) hx hb dX11_link_34 rfl (fun c34 => ?_) (fun c34 => ?_)
      · have h := br_n c34 h
        exact b53   p0 p1 p2 p3 (0 : Int32) m_refused m_job _ _ _ h hP hS (lv_sub hl [0, 1, 2, 3, 4] rfl)
      · have h := br_p c34 h
        refine lv_iload hx hb dX11_link_37 (lv_at hl 4 rfl) ?_
        refine lv_i2l hx hb dX11_link_39 rfl ?_
        refine lv_lconst (v := 0) hx hb dX11_link_40 rfl ?_
        refine lv_lconst (v := 1) hx hb dX11_link_41 rfl ?_
        obtain ⟨o6, hco6, h⟩ := bd_of h
        refine kS (rest := []) X dX11_link_42 wd_5_153 mw_X11_isIn wd_5_154 hP hS (fun _ z => z) (c_X11_isIn hco6) rfl hl.1 rfl (Nat.le_of_ble_eq_true rfl) rfl rfl ⟨Nat.le_of_ble_eq_true rfl, Nat.le_of_ble_eq_true rfl⟩ (fun H locs hP _ _ hS => ?_)
        refine W.eq (g2 := F0 m 45 ls [.int (bI o6)]) rfl ?_
        refine rb_eq (tgt := 53) hx hb dX11_link_45 rfl (fun c45 => ?_) (fun c45 => ?_)
        · have h := br_n c45 h
          exact b53   p0 p1 p2 p3 (0 : Int32) m_refused m_job _ _ _ h hP hS (lv_sub hl [0, 1, 2, 3, 4] rfl)
        · have h := br_p c45 h
          refine lv_iload_n hx hb dX11_link_48 rfl (lv_at hl 3 rfl) ?_
          refine lv_iload_n hx hb dX11_link_49 rfl (lv_at hl 1 rfl) ?_
          refine lv_icmp_lt (tgt := 57) hx hb dX11_link_50 rfl (fun c50 => ?_) (fun c50 => ?_)
          · have h := br_p c50 h
            refine lv_aload_n hx hb dX11_link_57 rfl (lv_at hl 0 rfl) ?_
            refine lv_iload_n hx hb dX11_link_58 rfl (lv_at hl 1 rfl) ?_
            refine lv_iconst (v := 4) hx hb dX11_link_59 rfl ?_
            obtain ⟨o7, hco7, h⟩ := bd_of h
            refine kV (rest := []) X dX11_link_60 wd_7_78 mw_X11_of wd_7_80 wp_9_3 hP (k0 := 0) rfl rfl rfl hS (fun _ z => z) (c_X11_of hco7) rfl hl.1 rfl (Nat.le_of_ble_eq_true rfl) rfl rfl ⟨Nat.le_of_ble_eq_true rfl, Nat.le_of_ble_eq_true rfl⟩ (fun H locs hP _ _ hS => ?_)
            refine W.eq (g2 := F0 m 63 ls [.int o7]) rfl ?_
            refine jx1 h (P := fun (v8 : Int32) => ∀ ls : Array Slot, lv_has ls 7 [(0, .ref (q 0)), (1, .int p0), (2, .int p1), (3, .int p2), (4, .int p3)] → W p l e rm_X11_link s m args below meth c H locs 0 0 Q (F0 m 71 ls [.int v8])) ?_ ?_
            · intro v8 h ls hl
              exact b71   p0 p1 p2 p3 v8 (0 : Int32) m_refused m_job _ _ _ h hP hS (lv_sub hl [0, 1, 2, 3, 4] rfl)
            · intro J h
              refine lv_if_eq (tgt := 70) hx hb dX11_link_63 rfl (fun c63 => ?_) (fun c63 => ?_)
              · refine lv_iconst (v := (-1)) hx hb dX11_link_70 rfl ?_
                exact J _ (lt_ip c63 h) ls (lv_sub hl [0, 1, 2, 3, 4] rfl)
              · refine lv_iconst (v := 3) hx hb dX11_link_66 rfl ?_
                refine lv_goto (tgt := 71) hx hb dX11_link_67 rfl ?_
                exact J _ (lt_in c63 h) ls (lv_sub hl [0, 1, 2, 3, 4] rfl)
          · have h := br_n c50 h
            exact b53   p0 p1 p2 p3 (0 : Int32) m_refused m_job _ _ _ h hP hS (lv_sub hl [0, 1, 2, 3, 4] rfl)
    · have h := br_n c18 h
      exact b21   p0 p1 p2 p3 (0 : Int32) m_refused m_job _ _ _ h hP hS (lv_sub hl [0, 1, 2, 3, 4] rfl)
abbrev rm_X11_linked : Room := { frames := 2, cells := 0, slots := 0, locals := 46 }
set_option maxRecDepth 100000 in
set_option maxHeartbeats 4000000 in
theorem c_X11_linked {g : gT} {l : Launch} {A : Nat → Prop} {q : Nat → Nat} {m_thrown : Int32} {m_length : Int32} {m_at : Int32} {m_fault : Int32} {m_toldWords : Int32} {m_orders : Int32} {m_value : Int32} {m_hasUnit : Bool} {m_places : Int32} {m_clocks : Int32} {m_held : Bool} {m_x : Int64} {m_y : Int64} {m_z : Int64} {m_first : Int64} {m_second : Int64} {m_aside : Int32} {m_jobs : Int32} {m_jobsImage : Int32} {m_clocksImage : Int32} {m_heldImage : Bool} {m_hasImage : Bool} {m_tape : Nat → Int32} {m_read : Nat → Int32} {m_order : Nat → Int32} {m_width : Nat → Int32} {m_guard : Nat → Int32} {m_points : Nat → Int32} {m_stages : Nat → Int32} {m_gain : Nat → Int32} {m_undo : Nat → Int32} {m_near : Nat → Bool} {m_quarter : Nat → Int64} {m_ln : Nat → Int64} {m_angle : Nat → Int64} {m_shift : Nat → Int32} {m_digit : Nat → Int32} {m_refused : Nat → Int32} {m_job : Nat → Int32} {m_jobKept : Nat → Int32} {m_result : Nat → Int32} {m_resultKept : Nat → Int32} {m_trace : Nat → Int64} {m_traceKept : Nat → Int64} {m_jobImage : Nat → Int32} {m_resultImage : Nat → Int32} {m_traceImage : Nat → Int64} {p0 : Int32} {p1 : Int32} {o : Int32 × Int32} (h : f_X11_linked p0 p1 m_thrown m_hasUnit m_jobs m_job = some o) : Std g l yX11_linked (.code yX11_linked cX11_linked 3 (some .int) :: gw) rm_X11_linked A [.ref (q 0), .int p0, .int p1] (wM g q m_thrown m_length m_at m_fault m_toldWords m_orders m_value m_hasUnit m_places m_clocks m_held m_x m_y m_z m_first m_second m_aside m_jobs m_jobsImage m_clocksImage m_heldImage m_hasImage m_tape m_read m_order m_width m_guard m_points m_stages m_gain m_undo m_near m_quarter m_ln m_angle m_shift m_digit m_refused m_job m_jobKept m_result m_resultKept m_trace m_traceKept m_jobImage m_resultImage m_traceImage) (wM g q o.2 m_length m_at m_fault m_toldWords m_orders m_value m_hasUnit m_places m_clocks m_held m_x m_y m_z m_first m_second m_aside m_jobs m_jobsImage m_clocksImage m_heldImage m_hasImage m_tape m_read m_order m_width m_guard m_points m_stages m_gain m_undo m_near m_quarter m_ln m_angle m_shift m_digit m_refused m_job m_jobKept m_result m_resultKept m_trace m_traceKept m_jobImage m_resultImage m_traceImage) (some (.int o.1)) := by
  refine std_i (own := RX11) (by decide +kernel) rfl (Nat.le_of_ble_eq_true rfl) ?_
  intro p e s m args below meth c Q X ret H locs hP hS ls hl
  have hx := X.1
  have hb := X.2.1
  have hl : lv_has ls 3 [(0, .ref (q 0)), (1, .int p0), (2, .int p1)] := hl
  have ret : ∀ {H : Heap} {locs : List Loc} {pc : Nat} {ls : Array Slot} {v : Int32} {m_thrown : Int32}, some (v, m_thrown) = some o → WP g A (wM g q m_thrown m_length m_at m_fault m_toldWords m_orders m_value m_hasUnit m_places m_clocks m_held m_x m_y m_z m_first m_second m_aside m_jobs m_jobsImage m_clocksImage m_heldImage m_hasImage m_tape m_read m_order m_width m_guard m_points m_stages m_gain m_undo m_near m_quarter m_ln m_angle m_shift m_digit m_refused m_job m_jobKept m_result m_resultKept m_trace m_traceKept m_jobImage m_resultImage m_traceImage) H → va_S A s.heap H locs → decode cX11_linked pc = .ok (.ireturn, 1) → W p l e rm_X11_linked s m args below meth c H locs 0 0 Q (F0 m pc ls [.int v]) := by
    intro H locs pc ls v m_thrown h hP hS hd
    cases h
    exact ret hP hS hd
  have b37 : ∀ (m_thrown : Int32) (H : Heap) (locs : List Loc) (ls : Array Slot), f_X11_linked_b37  m_hasUnit m_jobs m_job  m_thrown = some o → WP g A (wM g q m_thrown m_length m_at m_fault m_toldWords m_orders m_value m_hasUnit m_places m_clocks m_held m_x m_y m_z m_first m_second m_aside m_jobs m_jobsImage m_clocksImage m_heldImage m_hasImage m_tape m_read m_order m_width m_guard m_points m_stages m_gain m_undo m_near m_quarter m_ln m_angle m_shift m_digit m_refused m_job m_jobKept m_result m_resultKept m_trace m_traceKept m_jobImage m_resultImage m_traceImage) H → va_S A s.heap H locs → lv_has ls 3 [] → W p l e rm_X11_linked s m args below meth c H locs 0 0 Q (F0 m 37 ls []) := by
    intro  m_thrown H locs ls h hP hS hl
    unfold f_X11_linked_b37 at h
    refine lv_iconst (v := (-1)) hx hb dX11_linked_37 rfl ?_
    exact ret h hP hS dX11_linked_38
  unfold f_X11_linked at h
  refine lv_aload_n hx hb dX11_linked_0 rfl (lv_at hl 0 rfl) ?_
  refine lv_iconst (v := 0) hx hb dX11_linked_1 rfl ?_
  refine pf_X11_5_M_0 (v0 := (0 : Int32)) X hP hS dX11_linked_2 (fun H locs hP hS => ?_)
  refine lv_aload_n hx hb dX11_linked_5 rfl (lv_at hl 0 rfl) ?_
  refine lv_iload_n hx hb dX11_linked_6 rfl (lv_at hl 1 rfl) ?_
  obtain ⟨o1, hco1, h⟩ := bd_of h
  refine kV (rest := []) X dX11_linked_7 wd_7_74 mw_X11_isJob wd_7_76 wp_9_2 hP (k0 := 0) rfl rfl rfl hS (fun _ z => z) (c_X11_isJob hco1) rfl hl.1 rfl (Nat.le_of_ble_eq_true rfl) rfl rfl ⟨Nat.le_of_ble_eq_true rfl, Nat.le_of_ble_eq_true rfl⟩ (fun H locs hP _ _ hS => ?_)
  refine W.eq (g2 := F0 m 10 ls [.int (bI o1)]) rfl ?_
  refine rb_eq (tgt := 37) hx hb dX11_linked_10 rfl (fun c10 => ?_) (fun c10 => ?_)
  · have h := br_n c10 h
    exact b37   (0 : Int32) _ _ _ h hP hS (lv_sub hl [] rfl)
  · have h := br_p c10 h
    refine lv_iload_n hx hb dX11_linked_13 rfl (lv_at hl 2 rfl) ?_
    refine lv_i2l hx hb dX11_linked_14 rfl ?_
    refine lv_lconst (v := 0) hx hb dX11_linked_15 rfl ?_
    refine lv_ldc2 (v := 2) hx hb X.2.2.2.1 (X.2.2.2.2.1 _ wd_5_201) dX11_linked_16 ?_
    obtain ⟨o2, hco2, h⟩ := bd_of h
    refine kS (rest := []) X dX11_linked_19 wd_5_153 mw_X11_isIn wd_5_154 hP hS (fun _ z => z) (c_X11_isIn hco2) rfl hl.1 rfl (Nat.le_of_ble_eq_true rfl) rfl rfl ⟨Nat.le_of_ble_eq_true rfl, Nat.le_of_ble_eq_true rfl⟩ (fun H locs hP _ _ hS => ?_)
    refine W.eq (g2 := F0 m 22 ls [.int (bI o2)]) rfl ?_
    refine rb_eq (tgt := 37) hx hb dX11_linked_22 rfl (fun c22 => ?_) (fun c22 => ?_)
    · have h := br_n c22 h
      exact b37   (0 : Int32) _ _ _ h hP hS (lv_sub hl [] rfl)
    · have h := br_p c22 h
      refine lv_aload_n hx hb dX11_linked_25 rfl (lv_at hl 0 rfl) ?_
      refine lv_iload_n hx hb dX11_linked_26 rfl (lv_at hl 1 rfl) ?_
      refine lv_bipush (v := 10) hx hb dX11_linked_27 rfl ?_
      refine lv_iload_n hx hb dX11_linked_29 rfl (lv_at hl 2 rfl) ?_
      refine lv_iadd hx hb dX11_linked_30 ?_
      obtain ⟨o3, hco3, h⟩ := bd_of h
      refine kV (rest := []) X dX11_linked_31 wd_7_78 mw_X11_of wd_7_80 wp_9_3 hP (k0 := 0) rfl rfl rfl hS (fun _ z => z) (c_X11_of hco3) rfl hl.1 rfl (Nat.le_of_ble_eq_true rfl) rfl rfl ⟨Nat.le_of_ble_eq_true rfl, Nat.le_of_ble_eq_true rfl⟩ (fun H locs hP _ _ hS => ?_)
      refine W.eq (g2 := F0 m 34 ls [.int o3]) rfl ?_
      refine lv_goto (tgt := 38) hx hb dX11_linked_34 rfl ?_
      exact ret h hP hS dX11_linked_38
abbrev rm_X11_takes : Room := { frames := 1, cells := 0, slots := 0, locals := 22 }
set_option maxRecDepth 100000 in
set_option maxHeartbeats 4000000 in
theorem c_X11_takes {g : gT} {l : Launch} {A : Nat → Prop} {q : Nat → Nat} {m_thrown : Int32} {m_length : Int32} {m_at : Int32} {m_fault : Int32} {m_toldWords : Int32} {m_orders : Int32} {m_value : Int32} {m_hasUnit : Bool} {m_places : Int32} {m_clocks : Int32} {m_held : Bool} {m_x : Int64} {m_y : Int64} {m_z : Int64} {m_first : Int64} {m_second : Int64} {m_aside : Int32} {m_jobs : Int32} {m_jobsImage : Int32} {m_clocksImage : Int32} {m_heldImage : Bool} {m_hasImage : Bool} {m_tape : Nat → Int32} {m_read : Nat → Int32} {m_order : Nat → Int32} {m_width : Nat → Int32} {m_guard : Nat → Int32} {m_points : Nat → Int32} {m_stages : Nat → Int32} {m_gain : Nat → Int32} {m_undo : Nat → Int32} {m_near : Nat → Bool} {m_quarter : Nat → Int64} {m_ln : Nat → Int64} {m_angle : Nat → Int64} {m_shift : Nat → Int32} {m_digit : Nat → Int32} {m_refused : Nat → Int32} {m_job : Nat → Int32} {m_jobKept : Nat → Int32} {m_result : Nat → Int32} {m_resultKept : Nat → Int32} {m_trace : Nat → Int64} {m_traceKept : Nat → Int64} {m_jobImage : Nat → Int32} {m_resultImage : Nat → Int32} {m_traceImage : Nat → Int64} {p0 : Int32} {o : Int64 × Int64 × Int64 × Int32} (h : f_X11_takes p0 m_x m_y m_z m_aside m_job m_trace = some o) : Std g l yX11_takes (.code yX11_takes cX11_takes 3 none :: gw) rm_X11_takes A [.ref (q 0), .int p0] (wM g q m_thrown m_length m_at m_fault m_toldWords m_orders m_value m_hasUnit m_places m_clocks m_held m_x m_y m_z m_first m_second m_aside m_jobs m_jobsImage m_clocksImage m_heldImage m_hasImage m_tape m_read m_order m_width m_guard m_points m_stages m_gain m_undo m_near m_quarter m_ln m_angle m_shift m_digit m_refused m_job m_jobKept m_result m_resultKept m_trace m_traceKept m_jobImage m_resultImage m_traceImage) (wM g q m_thrown m_length m_at m_fault m_toldWords m_orders m_value m_hasUnit m_places m_clocks m_held o.1 o.2.1 o.2.2.1 m_first m_second o.2.2.2 m_jobs m_jobsImage m_clocksImage m_heldImage m_hasImage m_tape m_read m_order m_width m_guard m_points m_stages m_gain m_undo m_near m_quarter m_ln m_angle m_shift m_digit m_refused m_job m_jobKept m_result m_resultKept m_trace m_traceKept m_jobImage m_resultImage m_traceImage) none := by
  refine std_v (own := RX11) (by decide +kernel) rfl (Nat.le_of_ble_eq_true rfl) ?_
  intro p e s m args below meth c Q X ret H locs hP hS ls hl
  have hx := X.1
  have hb := X.2.1
  have hl : lv_has ls 3 [(0, .ref (q 0)), (1, .int p0)] := hl
  have ret : ∀ {H : Heap} {locs : List Loc} {pc : Nat} {ls : Array Slot} {m_x : Int64} {m_y : Int64} {m_z : Int64} {m_aside : Int32}, some (m_x, m_y, m_z, m_aside) = some o → WP g A (wM g q m_thrown m_length m_at m_fault m_toldWords m_orders m_value m_hasUnit m_places m_clocks m_held m_x m_y m_z m_first m_second m_aside m_jobs m_jobsImage m_clocksImage m_heldImage m_hasImage m_tape m_read m_order m_width m_guard m_points m_stages m_gain m_undo m_near m_quarter m_ln m_angle m_shift m_digit m_refused m_job m_jobKept m_result m_resultKept m_trace m_traceKept m_jobImage m_resultImage m_traceImage) H → va_S A s.heap H locs → decode cX11_takes pc = .ok (.return_, 1) → W p l e rm_X11_takes s m args below meth c H locs 0 0 Q (F0 m pc ls []) := by
    intro H locs pc ls m_x m_y m_z m_aside h hP hS hd
    cases h
    exact ret hP hS hd
  unfold f_X11_takes at h
  refine lv_bipush (v := 75) hx hb dX11_takes_0 rfl ?_
  refine lv_iload_n hx hb dX11_takes_2 rfl (lv_at hl 1 rfl) ?_
  refine lv_imul hx hb dX11_takes_3 ?_
  refine lv_iconst (v := 3) hx hb dX11_takes_4 rfl ?_
  refine lv_aload_n hx hb dX11_takes_5 rfl (lv_at hl 0 rfl) ?_
  refine lv_iload_n hx hb dX11_takes_6 rfl (lv_at hl 1 rfl) ?_
  refine lv_iconst (v := 5) hx hb dX11_takes_7 rfl ?_
  obtain ⟨o1, hco1, h⟩ := bd_of h
  refine kV (rest := [.int 3, .int ((75 : Int32) * p0)]) X dX11_takes_8 wd_7_78 mw_X11_of wd_7_80 wp_9_3 hP (k0 := 0) rfl rfl rfl hS (fun _ z => z) (c_X11_of hco1) rfl hl.1 rfl (Nat.le_of_ble_eq_true rfl) rfl rfl ⟨Nat.le_of_ble_eq_true rfl, Nat.le_of_ble_eq_true rfl⟩ (fun H locs hP _ _ hS => ?_)
  refine W.eq (g2 := F0 m 11 ls [.int o1, .int 3, .int ((75 : Int32) * p0)]) rfl ?_
  refine lv_imul hx hb dX11_takes_11 ?_
  refine lv_iadd hx hb dX11_takes_12 ?_
  refine lv_topi (fun v2 ev2 => ?_)
  have h := lt_at ev2 h
  refine lv_istore_n (lv' := [(2, .int v2), (0, .ref (q 0)), (1, .int p0)]) hx hb dX11_takes_13 rfl hl (by decide) rfl (fun ls hl => ?_)
  refine lv_aload_n hx hb dX11_takes_14 rfl (lv_at hl 1 rfl) ?_
  refine lv_aload_n hx hb dX11_takes_15 rfl (lv_at hl 1 rfl) ?_
  refine gf_X11_238_M_0 X hP dX11_takes_16 ?_
  refine lv_iload_n hx hb dX11_takes_19 rfl (lv_at hl 0 rfl) ?_
  obtain ⟨hi20, h⟩ := gv_of h
  refine al_M_21 X hP hi20 dX11_takes_20 ?_
  refine lv_topl (fun v3 ev3 => ?_)
  have h := lt_at ev3 h
  refine pf_X11_344_M_0 (v0 := v3) X hP hS dX11_takes_21 (fun H locs hP hS => ?_)
  refine lv_aload_n hx hb dX11_takes_24 rfl (lv_at hl 1 rfl) ?_
  refine lv_aload_n hx hb dX11_takes_25 rfl (lv_at hl 1 rfl) ?_
  refine gf_X11_238_M_0 X hP dX11_takes_26 ?_
  refine lv_iload_n hx hb dX11_takes_29 rfl (lv_at hl 0 rfl) ?_
  refine lv_iconst (v := 1) hx hb dX11_takes_30 rfl ?_
  refine lv_iadd hx hb dX11_takes_31 ?_
  obtain ⟨hi32, h⟩ := gv_of h
  refine al_M_21 X hP hi32 dX11_takes_32 ?_
  refine lv_topl (fun v4 ev4 => ?_)
  have h := lt_at ev4 h
  refine pf_X11_334_M_0 (v0 := v4) X hP hS dX11_takes_33 (fun H locs hP hS => ?_)
  refine lv_aload_n hx hb dX11_takes_36 rfl (lv_at hl 1 rfl) ?_
  refine lv_aload_n hx hb dX11_takes_37 rfl (lv_at hl 1 rfl) ?_
  refine gf_X11_238_M_0 X hP dX11_takes_38 ?_
  refine lv_iload_n hx hb dX11_takes_41 rfl (lv_at hl 0 rfl) ?_
  refine lv_iconst (v := 2) hx hb dX11_takes_42 rfl ?_
  refine lv_iadd hx hb dX11_takes_43 ?_
  obtain ⟨hi44, h⟩ := gv_of h
  refine al_M_21 X hP hi44 dX11_takes_44 ?_
  refine lv_topl (fun v5 ev5 => ?_)
  have h := lt_at ev5 h
  refine pf_X11_331_M_0 (v0 := v5) X hP hS dX11_takes_45 (fun H locs hP hS => ?_)
  refine lv_aload_n hx hb dX11_takes_48 rfl (lv_at hl 1 rfl) ?_
  refine lv_aload_n hx hb dX11_takes_49 rfl (lv_at hl 1 rfl) ?_
  refine lv_iload_n hx hb dX11_takes_50 rfl (lv_at hl 2 rfl) ?_
  refine lv_bipush (v := 8) hx hb dX11_takes_51 rfl ?_
  obtain ⟨o6, hco6, h⟩ := bd_of h
  refine kV (rest := [.ref (q 0)]) X dX11_takes_53 wd_7_78 mw_X11_of wd_7_80 wp_9_3 hP (k0 := 0) rfl rfl rfl hS (fun _ z => z) (c_X11_of hco6) rfl hl.1 rfl (Nat.le_of_ble_eq_true rfl) rfl rfl ⟨Nat.le_of_ble_eq_true rfl, Nat.le_of_ble_eq_true rfl⟩ (fun H locs hP _ _ hS => ?_)
  refine W.eq (g2 := F0 m 56 ls [.int o6, .ref (q 0)]) rfl ?_
  refine pf_X11_337_M_0 (v0 := o6) X hP hS dX11_takes_56 (fun H locs hP hS => ?_)
  exact ret h hP hS dX11_takes_59
abbrev rm_X11_puts : Room := { frames := 1, cells := 0, slots := 0, locals := 22 }
set_option maxRecDepth 100000 in
set_option maxHeartbeats 4000000 in
theorem c_X11_puts {g : gT} {l : Launch} {A : Nat → Prop} {q : Nat → Nat} {m_thrown : Int32} {m_length : Int32} {m_at : Int32} {m_fault : Int32} {m_toldWords : Int32} {m_orders : Int32} {m_value : Int32} {m_hasUnit : Bool} {m_places : Int32} {m_clocks : Int32} {m_held : Bool} {m_x : Int64} {m_y : Int64} {m_z : Int64} {m_first : Int64} {m_second : Int64} {m_aside : Int32} {m_jobs : Int32} {m_jobsImage : Int32} {m_clocksImage : Int32} {m_heldImage : Bool} {m_hasImage : Bool} {m_tape : Nat → Int32} {m_read : Nat → Int32} {m_order : Nat → Int32} {m_width : Nat → Int32} {m_guard : Nat → Int32} {m_points : Nat → Int32} {m_stages : Nat → Int32} {m_gain : Nat → Int32} {m_undo : Nat → Int32} {m_near : Nat → Bool} {m_quarter : Nat → Int64} {m_ln : Nat → Int64} {m_angle : Nat → Int64} {m_shift : Nat → Int32} {m_digit : Nat → Int32} {m_refused : Nat → Int32} {m_job : Nat → Int32} {m_jobKept : Nat → Int32} {m_result : Nat → Int32} {m_resultKept : Nat → Int32} {m_trace : Nat → Int64} {m_traceKept : Nat → Int64} {m_jobImage : Nat → Int32} {m_resultImage : Nat → Int32} {m_traceImage : Nat → Int64} {p0 : Int32} {o : (Nat → Int64)} (h : f_X11_puts p0 m_x m_y m_z m_job m_trace = some o) : Std g l yX11_puts (.code yX11_puts cX11_puts 3 none :: gw) rm_X11_puts A [.ref (q 0), .int p0] (wM g q m_thrown m_length m_at m_fault m_toldWords m_orders m_value m_hasUnit m_places m_clocks m_held m_x m_y m_z m_first m_second m_aside m_jobs m_jobsImage m_clocksImage m_heldImage m_hasImage m_tape m_read m_order m_width m_guard m_points m_stages m_gain m_undo m_near m_quarter m_ln m_angle m_shift m_digit m_refused m_job m_jobKept m_result m_resultKept m_trace m_traceKept m_jobImage m_resultImage m_traceImage) (wM g q m_thrown m_length m_at m_fault m_toldWords m_orders m_value m_hasUnit m_places m_clocks m_held m_x m_y m_z m_first m_second m_aside m_jobs m_jobsImage m_clocksImage m_heldImage m_hasImage m_tape m_read m_order m_width m_guard m_points m_stages m_gain m_undo m_near m_quarter m_ln m_angle m_shift m_digit m_refused m_job m_jobKept m_result m_resultKept o m_traceKept m_jobImage m_resultImage m_traceImage) none := by
  refine std_v (own := RX11) (by decide +kernel) rfl (Nat.le_of_ble_eq_true rfl) ?_
  intro p e s m args below meth c Q X ret H locs hP hS ls hl
  have hx := X.1
  have hb := X.2.1
  have hl : lv_has ls 3 [(0, .ref (q 0)), (1, .int p0)] := hl
  have ret : ∀ {H : Heap} {locs : List Loc} {pc : Nat} {ls : Array Slot} {m_trace : Nat → Int64}, some (m_trace) = some o → WP g A (wM g q m_thrown m_length m_at m_fault m_toldWords m_orders m_value m_hasUnit m_places m_clocks m_held m_x m_y m_z m_first m_second m_aside m_jobs m_jobsImage m_clocksImage m_heldImage m_hasImage m_tape m_read m_order m_width m_guard m_points m_stages m_gain m_undo m_near m_quarter m_ln m_angle m_shift m_digit m_refused m_job m_jobKept m_result m_resultKept m_trace m_traceKept m_jobImage m_resultImage m_traceImage) H → va_S A s.heap H locs → decode cX11_puts pc = .ok (.return_, 1) → W p l e rm_X11_puts s m args below meth c H locs 0 0 Q (F0 m pc ls []) := by
    intro H locs pc ls m_trace h hP hS hd
    cases h
    exact ret hP hS hd
  unfold f_X11_puts at h
  refine lv_bipush (v := 75) hx hb dX11_puts_0 rfl ?_
  refine lv_iload_n hx hb dX11_puts_2 rfl (lv_at hl 1 rfl) ?_
  refine lv_imul hx hb dX11_puts_3 ?_
  refine lv_iconst (v := 3) hx hb dX11_puts_4 rfl ?_
  refine lv_aload_n hx hb dX11_puts_5 rfl (lv_at hl 0 rfl) ?_
  refine lv_iload_n hx hb dX11_puts_6 rfl (lv_at hl 1 rfl) ?_
  refine lv_iconst (v := 5) hx hb dX11_puts_7 rfl ?_
  obtain ⟨o1, hco1, h⟩ := bd_of h
  refine kV (rest := [.int 3, .int ((75 : Int32) * p0)]) X dX11_puts_8 wd_7_78 mw_X11_of wd_7_80 wp_9_3 hP (k0 := 0) rfl rfl rfl hS (fun _ z => z) (c_X11_of hco1) rfl hl.1 rfl (Nat.le_of_ble_eq_true rfl) rfl rfl ⟨Nat.le_of_ble_eq_true rfl, Nat.le_of_ble_eq_true rfl⟩ (fun H locs hP _ _ hS => ?_)
  refine W.eq (g2 := F0 m 11 ls [.int o1, .int 3, .int ((75 : Int32) * p0)]) rfl ?_
  refine lv_imul hx hb dX11_puts_11 ?_
  refine lv_iadd hx hb dX11_puts_12 ?_
  refine lv_topi (fun v2 ev2 => ?_)
  have h := lt_at ev2 h
  refine lv_istore_n (lv' := [(2, .int v2), (0, .ref (q 0)), (1, .int p0)]) hx hb dX11_puts_13 rfl hl (by decide) rfl (fun ls hl => ?_)
  refine lv_aload_n hx hb dX11_puts_14 rfl (lv_at hl 1 rfl) ?_
  refine gf_X11_238_M_0 X hP dX11_puts_15 ?_
  refine lv_iload_n hx hb dX11_puts_18 rfl (lv_at hl 0 rfl) ?_
  refine lv_aload_n hx hb dX11_puts_19 rfl (lv_at hl 1 rfl) ?_
  refine gf_X11_344_M_0 X hP dX11_puts_20 ?_
  obtain ⟨hi23, h⟩ := gv_of h
  refine as_M_21 (v0 := m_x) X hP hS hi23 dX11_puts_23 (fun H locs hP hS => ?_)
  refine lv_aload_n hx hb dX11_puts_24 rfl (lv_at hl 1 rfl) ?_
  refine gf_X11_238_M_0 X hP dX11_puts_25 ?_
  refine lv_iload_n hx hb dX11_puts_28 rfl (lv_at hl 0 rfl) ?_
  refine lv_iconst (v := 1) hx hb dX11_puts_29 rfl ?_
  refine lv_iadd hx hb dX11_puts_30 ?_
  refine lv_aload_n hx hb dX11_puts_31 rfl (lv_at hl 1 rfl) ?_
  refine gf_X11_334_M_0 X hP dX11_puts_32 ?_
  obtain ⟨hi35, h⟩ := gv_of h
  refine as_M_21 (v0 := m_y) X hP hS hi35 dX11_puts_35 (fun H locs hP hS => ?_)
  refine lv_aload_n hx hb dX11_puts_36 rfl (lv_at hl 1 rfl) ?_
  refine gf_X11_238_M_0 X hP dX11_puts_37 ?_
  refine lv_iload_n hx hb dX11_puts_40 rfl (lv_at hl 0 rfl) ?_
  refine lv_iconst (v := 2) hx hb dX11_puts_41 rfl ?_
  refine lv_iadd hx hb dX11_puts_42 ?_
  refine lv_aload_n hx hb dX11_puts_43 rfl (lv_at hl 1 rfl) ?_
  refine gf_X11_331_M_0 X hP dX11_puts_44 ?_
  obtain ⟨hi47, h⟩ := gv_of h
  refine as_M_21 (v0 := m_z) X hP hS hi47 dX11_puts_47 (fun H locs hP hS => ?_)
  exact ret h hP hS dX11_puts_48
abbrev rm_X11_goesOn : Room := { frames := 3, cells := 0, slots := 0, locals := 76 }
set_option maxRecDepth 100000 in
set_option maxHeartbeats 4000000 in
theorem c_X11_goesOn {g : gT} {l : Launch} {A : Nat → Prop} {q : Nat → Nat} {m_thrown : Int32} {m_length : Int32} {m_at : Int32} {m_fault : Int32} {m_toldWords : Int32} {m_orders : Int32} {m_value : Int32} {m_hasUnit : Bool} {m_places : Int32} {m_clocks : Int32} {m_held : Bool} {m_x : Int64} {m_y : Int64} {m_z : Int64} {m_first : Int64} {m_second : Int64} {m_aside : Int32} {m_jobs : Int32} {m_jobsImage : Int32} {m_clocksImage : Int32} {m_heldImage : Bool} {m_hasImage : Bool} {m_tape : Nat → Int32} {m_read : Nat → Int32} {m_order : Nat → Int32} {m_width : Nat → Int32} {m_guard : Nat → Int32} {m_points : Nat → Int32} {m_stages : Nat → Int32} {m_gain : Nat → Int32} {m_undo : Nat → Int32} {m_near : Nat → Bool} {m_quarter : Nat → Int64} {m_ln : Nat → Int64} {m_angle : Nat → Int64} {m_shift : Nat → Int32} {m_digit : Nat → Int32} {m_refused : Nat → Int32} {m_job : Nat → Int32} {m_jobKept : Nat → Int32} {m_result : Nat → Int32} {m_resultKept : Nat → Int32} {m_trace : Nat → Int64} {m_traceKept : Nat → Int64} {m_jobImage : Nat → Int32} {m_resultImage : Nat → Int32} {m_traceImage : Nat → Int64} {p0 : Int32} {o : Int32 × Int64 × Int64 × Int64 × Int64 × Int64 × Int32 × (Nat → Int32) × (Nat → Int32) × (Nat → Int64)} (h : f_X11_goesOn p0 m_clocks m_x m_y m_z m_first m_second m_aside m_guard m_points m_stages m_near m_ln m_angle m_shift m_digit m_job m_result m_trace = some o) : Std g l yX11_goesOn (.code yX11_goesOn cX11_goesOn 2 (some .int) :: gw) rm_X11_goesOn A [.ref (q 0), .int p0] (wM g q m_thrown m_length m_at m_fault m_toldWords m_orders m_value m_hasUnit m_places m_clocks m_held m_x m_y m_z m_first m_second m_aside m_jobs m_jobsImage m_clocksImage m_heldImage m_hasImage m_tape m_read m_order m_width m_guard m_points m_stages m_gain m_undo m_near m_quarter m_ln m_angle m_shift m_digit m_refused m_job m_jobKept m_result m_resultKept m_trace m_traceKept m_jobImage m_resultImage m_traceImage) (wM g q m_thrown m_length m_at m_fault m_toldWords m_orders m_value m_hasUnit m_places m_clocks m_held o.2.1 o.2.2.1 o.2.2.2.1 o.2.2.2.2.1 o.2.2.2.2.2.1 o.2.2.2.2.2.2.1 m_jobs m_jobsImage m_clocksImage m_heldImage m_hasImage m_tape m_read m_order m_width m_guard m_points m_stages m_gain m_undo m_near m_quarter m_ln m_angle m_shift m_digit m_refused o.2.2.2.2.2.2.2.1 m_jobKept o.2.2.2.2.2.2.2.2.1 m_resultKept o.2.2.2.2.2.2.2.2.2 m_traceKept m_jobImage m_resultImage m_traceImage) (some (.int o.1)) := by
  refine std_i (own := RX11) (by decide +kernel) rfl (Nat.le_of_ble_eq_true rfl) ?_
  intro p e s m args below meth c Q X ret H locs hP hS ls hl
  have hx := X.1
  have hb := X.2.1
  have hl : lv_has ls 2 [(0, .ref (q 0)), (1, .int p0)] := hl
  have ret : ∀ {H : Heap} {locs : List Loc} {pc : Nat} {ls : Array Slot} {v : Int32} {m_x : Int64} {m_y : Int64} {m_z : Int64} {m_first : Int64} {m_second : Int64} {m_aside : Int32} {m_job : Nat → Int32} {m_result : Nat → Int32} {m_trace : Nat → Int64}, some (v, m_x, m_y, m_z, m_first, m_second, m_aside, m_job, m_result, m_trace) = some o → WP g A (wM g q m_thrown m_length m_at m_fault m_toldWords m_orders m_value m_hasUnit m_places m_clocks m_held m_x m_y m_z m_first m_second m_aside m_jobs m_jobsImage m_clocksImage m_heldImage m_hasImage m_tape m_read m_order m_width m_guard m_points m_stages m_gain m_undo m_near m_quarter m_ln m_angle m_shift m_digit m_refused m_job m_jobKept m_result m_resultKept m_trace m_traceKept m_jobImage m_resultImage m_traceImage) H → va_S A s.heap H locs → decode cX11_goesOn pc = .ok (.ireturn, 1) → W p l e rm_X11_goesOn s m args below meth c H locs 0 0 Q (F0 m pc ls [.int v]) := by
    intro H locs pc ls v m_x m_y m_z m_first m_second m_aside m_job m_result m_trace h hP hS hd
    cases h
    exact ret hP hS hd
  have b132 : ∀ (x1 : Int32) (m_x : Int64) (m_y : Int64) (m_z : Int64) (m_first : Int64) (m_second : Int64) (m_aside : Int32) (m_job : Nat → Int32) (m_result : Nat → Int32) (m_trace : Nat → Int64) (H : Heap) (locs : List Loc) (ls : Array Slot), f_X11_goesOn_b132  m_clocks m_guard m_points m_stages m_near m_ln m_angle m_shift m_digit  x1 m_x m_y m_z m_first m_second m_aside m_job m_result m_trace = some o → WP g A (wM g q m_thrown m_length m_at m_fault m_toldWords m_orders m_value m_hasUnit m_places m_clocks m_held m_x m_y m_z m_first m_second m_aside m_jobs m_jobsImage m_clocksImage m_heldImage m_hasImage m_tape m_read m_order m_width m_guard m_points m_stages m_gain m_undo m_near m_quarter m_ln m_angle m_shift m_digit m_refused m_job m_jobKept m_result m_resultKept m_trace m_traceKept m_jobImage m_resultImage m_traceImage) H → va_S A s.heap H locs → lv_has ls 2 [(0, .ref (q 0)), (1, .int x1)] → W p l e rm_X11_goesOn s m args below meth c H locs 0 0 Q (F0 m 132 ls []) := by
    intro  x1 m_x m_y m_z m_first m_second m_aside m_job m_result m_trace H locs ls h hP hS hl
    unfold f_X11_goesOn_b132 at h
    refine lv_aload_n hx hb dX11_goesOn_132 rfl (lv_at hl 0 rfl) ?_
    refine gf_X11_226_M_0 X hP dX11_goesOn_133 ?_
    refine lv_bipush (v := 14) hx hb dX11_goesOn_136 rfl ?_
    refine lv_iload_n hx hb dX11_goesOn_138 rfl (lv_at hl 1 rfl) ?_
    refine lv_imul hx hb dX11_goesOn_139 ?_
    refine lv_iconst (v := 5) hx hb dX11_goesOn_140 rfl ?_
    refine lv_iadd hx hb dX11_goesOn_141 ?_
    refine lv_topi (fun v6 ev6 => ?_)
    have h := lt_at ev6 h
    refine lv_dup2_11 hx hb dX11_goesOn_142 rfl rfl ?_
    obtain ⟨hi143, h⟩ := gv_of h
    refine al_M_17 X hP hi143 dX11_goesOn_143 ?_
    refine lv_iconst (v := 1) hx hb dX11_goesOn_144 rfl ?_
    refine lv_iadd hx hb dX11_goesOn_145 ?_
    refine lv_topi (fun v7 ev7 => ?_)
    have h := lt_at ev7 h
    obtain ⟨hi146, h⟩ := gv_of h
    refine as_M_17 (v0 := v7) X hP hS hi146 dX11_goesOn_146 (fun H locs hP hS => ?_)
    refine lv_aload_n hx hb dX11_goesOn_147 rfl (lv_at hl 0 rfl) ?_
    refine lv_iload_n hx hb dX11_goesOn_148 rfl (lv_at hl 1 rfl) ?_
    obtain ⟨o8, hco8, h⟩ := bd_of h
    refine kV (rest := []) X dX11_goesOn_149 wd_7_111 mw_X11_puts wd_7_113 wp_9_8 hP (k0 := 0) rfl rfl rfl hS (fun _ z => z) (c_X11_puts hco8) rfl hl.1 rfl (Nat.le_of_ble_eq_true rfl) rfl rfl ⟨Nat.le_of_ble_eq_true rfl, Nat.le_of_ble_eq_true rfl⟩ (fun H locs hP _ _ hS => ?_)
    refine W.eq (g2 := F0 m 152 ls []) rfl ?_
    refine lv_iconst (v := 0) hx hb dX11_goesOn_152 rfl ?_
    exact ret h hP hS dX11_goesOn_153
  unfold f_X11_goesOn at h
  refine lv_aload_n hx hb dX11_goesOn_0 rfl (lv_at hl 0 rfl) ?_
  refine lv_iload_n hx hb dX11_goesOn_1 rfl (lv_at hl 1 rfl) ?_
  obtain ⟨o1, hco1, h⟩ := bd_of h
  refine kV (rest := []) X dX11_goesOn_2 wd_7_107 mw_X11_takes wd_7_109 wp_9_7 hP (k0 := 0) rfl rfl rfl hS (fun _ z => z) (c_X11_takes hco1) rfl hl.1 rfl (Nat.le_of_ble_eq_true rfl) rfl rfl ⟨Nat.le_of_ble_eq_true rfl, Nat.le_of_ble_eq_true rfl⟩ (fun H locs hP _ _ hS => ?_)
  refine W.eq (g2 := F0 m 5 ls []) rfl ?_
  refine lv_aload_n hx hb dX11_goesOn_5 rfl (lv_at hl 0 rfl) ?_
  refine lv_iload_n hx hb dX11_goesOn_6 rfl (lv_at hl 1 rfl) ?_
  refine lv_iconst (v := 5) hx hb dX11_goesOn_7 rfl ?_
  obtain ⟨o2, hco2, h⟩ := bd_of h
  refine kV (rest := []) X dX11_goesOn_8 wd_7_78 mw_X11_of wd_7_80 wp_9_3 hP (k0 := 0) rfl rfl rfl hS (fun _ z => z) (c_X11_of hco2) rfl hl.1 rfl (Nat.le_of_ble_eq_true rfl) rfl rfl ⟨Nat.le_of_ble_eq_true rfl, Nat.le_of_ble_eq_true rfl⟩ (fun H locs hP _ _ hS => ?_)
  refine W.eq (g2 := F0 m 11 ls [.int o2]) rfl ?_
  refine lv_aload_n hx hb dX11_goesOn_11 rfl (lv_at hl 0 rfl) ?_
  refine gf_X11_171_M_0 X hP dX11_goesOn_12 ?_
  refine lv_iconst (v := 0) hx hb dX11_goesOn_15 rfl ?_
  obtain ⟨hi16, h⟩ := gv_of h
  refine al_M_7 X hP hi16 dX11_goesOn_16 ?_
  refine lv_icmp_ne (tgt := 89) hx hb dX11_goesOn_17 rfl (fun c17 => ?_) (fun c17 => ?_)
  · have h := br_n c17 h
    refine lv_aload_n hx hb dX11_goesOn_89 rfl (lv_at hl 0 rfl) ?_
    refine lv_iconst (v := 0) hx hb dX11_goesOn_90 rfl ?_
    refine lv_aload_n hx hb dX11_goesOn_91 rfl (lv_at hl 0 rfl) ?_
    refine lv_iload_n hx hb dX11_goesOn_92 rfl (lv_at hl 1 rfl) ?_
    refine lv_iconst (v := 0) hx hb dX11_goesOn_93 rfl ?_
    obtain ⟨o3, hco3, h⟩ := bd_of h
    refine kV (rest := [.int 0, .ref (q 0)]) X dX11_goesOn_94 wd_7_78 mw_X11_of wd_7_80 wp_9_3 hP (k0 := 0) rfl rfl rfl hS (fun _ z => z) (c_X11_of hco3) rfl hl.1 rfl (Nat.le_of_ble_eq_true rfl) rfl rfl ⟨Nat.le_of_ble_eq_true rfl, Nat.le_of_ble_eq_true rfl⟩ (fun H locs hP _ _ hS => ?_)
    refine W.eq (g2 := F0 m 97 ls [.int o3, .int 0, .ref (q 0)]) rfl ?_
    refine lv_aload_n hx hb dX11_goesOn_97 rfl (lv_at hl 0 rfl) ?_
    refine lv_iload_n hx hb dX11_goesOn_98 rfl (lv_at hl 1 rfl) ?_
    refine lv_iconst (v := 5) hx hb dX11_goesOn_99 rfl ?_
    obtain ⟨o4, hco4, h⟩ := bd_of h
    refine kV (rest := [.int o3, .int 0, .ref (q 0)]) X dX11_goesOn_100 wd_7_78 mw_X11_of wd_7_80 wp_9_3 hP (k0 := 0) rfl rfl rfl hS (fun _ z => z) (c_X11_of hco4) rfl hl.1 rfl (Nat.le_of_ble_eq_true rfl) rfl rfl ⟨Nat.le_of_ble_eq_true rfl, Nat.le_of_ble_eq_true rfl⟩ (fun H locs hP _ _ hS => ?_)
    refine W.eq (g2 := F0 m 103 ls [.int o4, .int o3, .int 0, .ref (q 0)]) rfl ?_
    obtain ⟨o5, hco5, h⟩ := bd_of h
    refine kV (rest := []) X dX11_goesOn_103 wd_6_236 mw_X11_steps wd_6_238 wp_8_9 hP (k0 := 0) rfl rfl rfl hS (fun _ z => z) (c_X11_steps hco5) rfl hl.1 rfl (Nat.le_of_ble_eq_true rfl) rfl rfl ⟨Nat.le_of_ble_eq_true rfl, Nat.le_of_ble_eq_true rfl⟩ (fun H locs hP _ _ hS => ?_)
    refine W.eq (g2 := F0 m 106 ls [.int (bI o5.1)]) rfl ?_
    refine rb_eq (tgt := 132) hx hb dX11_goesOn_106 rfl (fun c106 => ?_) (fun c106 => ?_)
    · have h := br_n c106 h
      exact b132   p0 o5.2.1 o5.2.2.1 o5.2.2.2 m_first m_second o1.2.2.2 m_job m_result m_trace _ _ _ h hP hS (lv_sub hl [0, 1] rfl)
    · have h := br_p c106 h
      refine lv_aload_n hx hb dX11_goesOn_109 rfl (lv_at hl 0 rfl) ?_
      refine gf_X11_226_M_0 X hP dX11_goesOn_110 ?_
      refine lv_bipush (v := 14) hx hb dX11_goesOn_113 rfl ?_
      refine lv_iload_n hx hb dX11_goesOn_115 rfl (lv_at hl 1 rfl) ?_
      refine lv_imul hx hb dX11_goesOn_116 ?_
      refine lv_bipush (v := 9) hx hb dX11_goesOn_117 rfl ?_
      refine lv_iadd hx hb dX11_goesOn_119 ?_
      refine lv_topi (fun v9 ev9 => ?_)
      have h := lt_at ev9 h
      refine lv_dup2_11 hx hb dX11_goesOn_120 rfl rfl ?_
      obtain ⟨hi121, h⟩ := gv_of h
      refine al_M_17 X hP hi121 dX11_goesOn_121 ?_
      refine lv_iconst (v := 1) hx hb dX11_goesOn_122 rfl ?_
      refine lv_aload_n hx hb dX11_goesOn_123 rfl (lv_at hl 0 rfl) ?_
      refine lv_iload_n hx hb dX11_goesOn_124 rfl (lv_at hl 1 rfl) ?_
      refine lv_iconst (v := 5) hx hb dX11_goesOn_125 rfl ?_
      obtain ⟨o10, hco10, h⟩ := bd_of h
      refine kV (rest := [.int 1, .int (m_job (v9).toNatClampNeg), .int v9, .ref (q 17)]) X dX11_goesOn_126 wd_7_78 mw_X11_of wd_7_80 wp_9_3 hP (k0 := 0) rfl rfl rfl hS (fun _ z => z) (c_X11_of hco10) rfl hl.1 rfl (Nat.le_of_ble_eq_true rfl) rfl rfl ⟨Nat.le_of_ble_eq_true rfl, Nat.le_of_ble_eq_true rfl⟩ (fun H locs hP _ _ hS => ?_)
      refine W.eq (g2 := F0 m 129 ls [.int o10, .int 1, .int (m_job (v9).toNatClampNeg), .int v9, .ref (q 17)]) rfl ?_
      refine lv_ishl hx hb dX11_goesOn_129 ?_
      refine lv_ior hx hb dX11_goesOn_130 ?_
      refine lv_topi (fun v11 ev11 => ?_)
      have h := lt_at ev11 h
      obtain ⟨hi131, h⟩ := gv_of h
      refine as_M_17 (v0 := v11) X hP hS hi131 dX11_goesOn_131 (fun H locs hP hS => ?_)
      exact b132   p0 o5.2.1 o5.2.2.1 o5.2.2.2 m_first m_second o1.2.2.2 (upd m_job (v9).toNatClampNeg v11) m_result m_trace _ _ _ h hP hS (lv_sub hl [0, 1] rfl)
  · have h := br_p c17 h
    refine lv_aload_n hx hb dX11_goesOn_20 rfl (lv_at hl 0 rfl) ?_
    refine lv_iconst (v := 0) hx hb dX11_goesOn_21 rfl ?_
    refine lv_aload_n hx hb dX11_goesOn_22 rfl (lv_at hl 0 rfl) ?_
    refine lv_iload_n hx hb dX11_goesOn_23 rfl (lv_at hl 1 rfl) ?_
    refine lv_iconst (v := 0) hx hb dX11_goesOn_24 rfl ?_
    obtain ⟨o12, hco12, h⟩ := bd_of h
    refine kV (rest := [.int 0, .ref (q 0)]) X dX11_goesOn_25 wd_7_78 mw_X11_of wd_7_80 wp_9_3 hP (k0 := 0) rfl rfl rfl hS (fun _ z => z) (c_X11_of hco12) rfl hl.1 rfl (Nat.le_of_ble_eq_true rfl) rfl rfl ⟨Nat.le_of_ble_eq_true rfl, Nat.le_of_ble_eq_true rfl⟩ (fun H locs hP _ _ hS => ?_)
    refine W.eq (g2 := F0 m 28 ls [.int o12, .int 0, .ref (q 0)]) rfl ?_
    obtain ⟨o13, hco13, h⟩ := bd_of h
    refine kV (rest := []) X dX11_goesOn_28 wd_7_6 mw_X11_ends wd_7_8 wp_8_10 hP (k0 := 0) rfl rfl rfl hS (fun _ z => z) (c_X11_ends hco13) rfl hl.1 rfl (Nat.le_of_ble_eq_true rfl) rfl rfl ⟨Nat.le_of_ble_eq_true rfl, Nat.le_of_ble_eq_true rfl⟩ (fun H locs hP _ _ hS => ?_)
    refine W.eq (g2 := F0 m 31 ls []) rfl ?_
    refine lv_aload_n hx hb dX11_goesOn_31 rfl (lv_at hl 0 rfl) ?_
    refine gf_X11_232_M_0 X hP dX11_goesOn_32 ?_
    refine lv_iconst (v := 2) hx hb dX11_goesOn_35 rfl ?_
    refine lv_iload_n hx hb dX11_goesOn_36 rfl (lv_at hl 1 rfl) ?_
    refine lv_imul hx hb dX11_goesOn_37 ?_
    refine lv_aload_n hx hb dX11_goesOn_38 rfl (lv_at hl 0 rfl) ?_
    refine gf_X11_324_M_0 X hP dX11_goesOn_39 ?_
    refine lv_l2i hx hb dX11_goesOn_42 rfl ?_
    obtain ⟨hi43, h⟩ := gv_of h
    refine as_M_19 (v0 := o13.1.toInt32) X hP hS hi43 dX11_goesOn_43 (fun H locs hP hS => ?_)
    refine lv_aload_n hx hb dX11_goesOn_44 rfl (lv_at hl 0 rfl) ?_
    refine gf_X11_232_M_0 X hP dX11_goesOn_45 ?_
    refine lv_iconst (v := 2) hx hb dX11_goesOn_48 rfl ?_
    refine lv_iload_n hx hb dX11_goesOn_49 rfl (lv_at hl 1 rfl) ?_
    refine lv_imul hx hb dX11_goesOn_50 ?_
    refine lv_iconst (v := 1) hx hb dX11_goesOn_51 rfl ?_
    refine lv_iadd hx hb dX11_goesOn_52 ?_
    refine lv_aload_n hx hb dX11_goesOn_53 rfl (lv_at hl 0 rfl) ?_
    refine gf_X11_328_M_0 X hP dX11_goesOn_54 ?_
    refine lv_l2i hx hb dX11_goesOn_57 rfl ?_
    obtain ⟨hi58, h⟩ := gv_of h
    refine as_M_19 (v0 := o13.2.toInt32) X hP hS hi58 dX11_goesOn_58 (fun H locs hP hS => ?_)
    refine lv_aload_n hx hb dX11_goesOn_59 rfl (lv_at hl 0 rfl) ?_
    refine gf_X11_226_M_0 X hP dX11_goesOn_60 ?_
    refine lv_bipush (v := 14) hx hb dX11_goesOn_63 rfl ?_
    refine lv_iload_n hx hb dX11_goesOn_65 rfl (lv_at hl 1 rfl) ?_
    refine lv_imul hx hb dX11_goesOn_66 ?_
    refine lv_iconst (v := 4) hx hb dX11_goesOn_67 rfl ?_
    refine lv_iadd hx hb dX11_goesOn_68 ?_
    refine lv_iconst (v := 2) hx hb dX11_goesOn_69 rfl ?_
    obtain ⟨hi70, h⟩ := gv_of h
    refine as_M_17 (v0 := (2 : Int32)) X hP hS hi70 dX11_goesOn_70 (fun H locs hP hS => ?_)
    refine lv_aload_n hx hb dX11_goesOn_71 rfl (lv_at hl 0 rfl) ?_
    refine gf_X11_226_M_0 X hP dX11_goesOn_72 ?_
    refine lv_bipush (v := 14) hx hb dX11_goesOn_75 rfl ?_
    refine lv_iload_n hx hb dX11_goesOn_77 rfl (lv_at hl 1 rfl) ?_
    refine lv_imul hx hb dX11_goesOn_78 ?_
    refine lv_bipush (v := 7) hx hb dX11_goesOn_79 rfl ?_
    refine lv_iadd hx hb dX11_goesOn_81 ?_
    refine lv_aload_n hx hb dX11_goesOn_82 rfl (lv_at hl 0 rfl) ?_
    refine gf_X11_267_M_0 X hP dX11_goesOn_83 ?_
    obtain ⟨hi86, h⟩ := gv_of h
    refine as_M_17 (v0 := m_clocks) X hP hS hi86 dX11_goesOn_86 (fun H locs hP hS => ?_)
    refine lv_iconst (v := 1) hx hb dX11_goesOn_87 rfl ?_
    exact ret h hP hS dX11_goesOn_88
abbrev rm_X11_firstWaiting : Room := { frames := 1, cells := 0, slots := 0, locals := 22 }
set_option maxRecDepth 100000 in
set_option maxHeartbeats 4000000 in
theorem c_X11_firstWaiting {g : gT} {l : Launch} {A : Nat → Prop} {q : Nat → Nat} {m_thrown : Int32} {m_length : Int32} {m_at : Int32} {m_fault : Int32} {m_toldWords : Int32} {m_orders : Int32} {m_value : Int32} {m_hasUnit : Bool} {m_places : Int32} {m_clocks : Int32} {m_held : Bool} {m_x : Int64} {m_y : Int64} {m_z : Int64} {m_first : Int64} {m_second : Int64} {m_aside : Int32} {m_jobs : Int32} {m_jobsImage : Int32} {m_clocksImage : Int32} {m_heldImage : Bool} {m_hasImage : Bool} {m_tape : Nat → Int32} {m_read : Nat → Int32} {m_order : Nat → Int32} {m_width : Nat → Int32} {m_guard : Nat → Int32} {m_points : Nat → Int32} {m_stages : Nat → Int32} {m_gain : Nat → Int32} {m_undo : Nat → Int32} {m_near : Nat → Bool} {m_quarter : Nat → Int64} {m_ln : Nat → Int64} {m_angle : Nat → Int64} {m_shift : Nat → Int32} {m_digit : Nat → Int32} {m_refused : Nat → Int32} {m_job : Nat → Int32} {m_jobKept : Nat → Int32} {m_result : Nat → Int32} {m_resultKept : Nat → Int32} {m_trace : Nat → Int64} {m_traceKept : Nat → Int64} {m_jobImage : Nat → Int32} {m_resultImage : Nat → Int32} {m_traceImage : Nat → Int64}  {o : Int32} (h : f_X11_firstWaiting  m_jobs m_job = some o) : Std g l yX11_firstWaiting (.code yX11_firstWaiting cX11_firstWaiting 2 (some .int) :: gw) rm_X11_firstWaiting A [.ref (q 0)] (wM g q m_thrown m_length m_at m_fault m_toldWords m_orders m_value m_hasUnit m_places m_clocks m_held m_x m_y m_z m_first m_second m_aside m_jobs m_jobsImage m_clocksImage m_heldImage m_hasImage m_tape m_read m_order m_width m_guard m_points m_stages m_gain m_undo m_near m_quarter m_ln m_angle m_shift m_digit m_refused m_job m_jobKept m_result m_resultKept m_trace m_traceKept m_jobImage m_resultImage m_traceImage) (wM g q m_thrown m_length m_at m_fault m_toldWords m_orders m_value m_hasUnit m_places m_clocks m_held m_x m_y m_z m_first m_second m_aside m_jobs m_jobsImage m_clocksImage m_heldImage m_hasImage m_tape m_read m_order m_width m_guard m_points m_stages m_gain m_undo m_near m_quarter m_ln m_angle m_shift m_digit m_refused m_job m_jobKept m_result m_resultKept m_trace m_traceKept m_jobImage m_resultImage m_traceImage) (some (.int o)) := by
  refine std_i (own := RX11) (by decide +kernel) rfl (Nat.le_of_ble_eq_true rfl) ?_
  intro p e s m args below meth c Q X ret H locs hP hS ls hl
  have hx := X.1
  have hb := X.2.1
  have hl : lv_has ls 2 [(0, .ref (q 0))] := hl
  have ret : ∀ {H : Heap} {locs : List Loc} {pc : Nat} {ls : Array Slot} {v : Int32} , some (v) = some o → WP g A (wM g q m_thrown m_length m_at m_fault m_toldWords m_orders m_value m_hasUnit m_places m_clocks m_held m_x m_y m_z m_first m_second m_aside m_jobs m_jobsImage m_clocksImage m_heldImage m_hasImage m_tape m_read m_order m_width m_guard m_points m_stages m_gain m_undo m_near m_quarter m_ln m_angle m_shift m_digit m_refused m_job m_jobKept m_result m_resultKept m_trace m_traceKept m_jobImage m_resultImage m_traceImage) H → va_S A s.heap H locs → decode cX11_firstWaiting pc = .ok (.ireturn, 1) → W p l e rm_X11_firstWaiting s m args below meth c H locs 0 0 Q (F0 m pc ls [.int v]) := by
    intro H locs pc ls v h hP hS hd
    cases h
    exact ret hP hS hd
  have b25 : ∀ (x1 : Int32) (H : Heap) (locs : List Loc) (ls : Array Slot), f_X11_firstWaiting_b25  m_jobs m_job  x1 = some o → WP g A (wM g q m_thrown m_length m_at m_fault m_toldWords m_orders m_value m_hasUnit m_places m_clocks m_held m_x m_y m_z m_first m_second m_aside m_jobs m_jobsImage m_clocksImage m_heldImage m_hasImage m_tape m_read m_order m_width m_guard m_points m_stages m_gain m_undo m_near m_quarter m_ln m_angle m_shift m_digit m_refused m_job m_jobKept m_result m_resultKept m_trace m_traceKept m_jobImage m_resultImage m_traceImage) H → va_S A s.heap H locs → lv_has ls 2 [(0, .ref (q 0)), (1, .int x1)] → W p l e rm_X11_firstWaiting s m args below meth c H locs 0 0 Q (F0 m 25 ls []) := by
    intro  x1 H locs ls h hP hS hl
    unfold f_X11_firstWaiting_b25 at h
    refine lv_iload_n hx hb dX11_firstWaiting_25 rfl (lv_at hl 1 rfl) ?_
    refine lv_aload_n hx hb dX11_firstWaiting_26 rfl (lv_at hl 0 rfl) ?_
    refine gf_X11_273_M_0 X hP dX11_firstWaiting_27 ?_
    refine jx1 h (P := fun (v1 : Int32) => ∀ ls : Array Slot, lv_has ls 2 [] → W p l e rm_X11_firstWaiting s m args below meth c H locs 0 0 Q (F0 m 38 ls [.int v1])) ?_ ?_
    · intro v1 h ls hl
      exact ret h hP hS dX11_firstWaiting_38
    · intro J h
      refine lv_icmp_ge (tgt := 37) hx hb dX11_firstWaiting_30 rfl (fun c30 => ?_) (fun c30 => ?_)
      · refine lv_iconst (v := (-1)) hx hb dX11_firstWaiting_37 rfl ?_
        exact J _ (lt_ip c30 h) ls (lv_sub hl [] rfl)
      · refine lv_iload_n hx hb dX11_firstWaiting_33 rfl (lv_at hl 1 rfl) ?_
        refine lv_goto (tgt := 38) hx hb dX11_firstWaiting_34 rfl ?_
        exact J _ (lt_in c30 h) ls (lv_sub hl [] rfl)
  have l2 : ∀ (n : Nat), ∀ (x1 : Int32) (H : Heap) (locs : List Loc) (ls : Array Slot), f_X11_firstWaiting_l2  m_jobs m_job  n x1 = some o → WP g A (wM g q m_thrown m_length m_at m_fault m_toldWords m_orders m_value m_hasUnit m_places m_clocks m_held m_x m_y m_z m_first m_second m_aside m_jobs m_jobsImage m_clocksImage m_heldImage m_hasImage m_tape m_read m_order m_width m_guard m_points m_stages m_gain m_undo m_near m_quarter m_ln m_angle m_shift m_digit m_refused m_job m_jobKept m_result m_resultKept m_trace m_traceKept m_jobImage m_resultImage m_traceImage) H → va_S A s.heap H locs → lv_has ls 2 [(0, .ref (q 0)), (1, .int x1)] → W p l e rm_X11_firstWaiting s m args below meth c H locs 0 0 Q (F0 m 2 ls []) := by
    intro  n
    induction n with
    | zero =>
      intro x1 H locs ls h
      exact nz_of h
    | succ n ih =>
      intro x1 H locs ls h hP hS hl
      rw [f_X11_firstWaiting_l2] at h
      refine lv_iload_n hx hb dX11_firstWaiting_2 rfl (lv_at hl 1 rfl) ?_
      refine lv_aload_n hx hb dX11_firstWaiting_3 rfl (lv_at hl 0 rfl) ?_
      refine gf_X11_273_M_0 X hP dX11_firstWaiting_4 ?_
      refine lv_icmp_ge (tgt := 25) hx hb dX11_firstWaiting_7 rfl (fun c7 => ?_) (fun c7 => ?_)
      · have h := br_p c7 h
        exact b25   x1 _ _ _ h hP hS (lv_sub hl [0, 1] rfl)
      · have h := br_n c7 h
        refine lv_aload_n hx hb dX11_firstWaiting_10 rfl (lv_at hl 0 rfl) ?_
        refine lv_iload_n hx hb dX11_firstWaiting_11 rfl (lv_at hl 1 rfl) ?_
        refine lv_iconst (v := 4) hx hb dX11_firstWaiting_12 rfl ?_
        obtain ⟨o2, hco2, h⟩ := bd_of h
        refine kV (rest := []) X dX11_firstWaiting_13 wd_7_78 mw_X11_of wd_7_80 wp_9_3 hP (k0 := 0) rfl rfl rfl hS (fun _ z => z) (c_X11_of hco2) rfl hl.1 rfl (Nat.le_of_ble_eq_true rfl) rfl rfl ⟨Nat.le_of_ble_eq_true rfl, Nat.le_of_ble_eq_true rfl⟩ (fun H locs hP _ _ hS => ?_)
        refine W.eq (g2 := F0 m 16 ls [.int o2]) rfl ?_
        refine lv_if_eq (tgt := 25) hx hb dX11_firstWaiting_16 rfl (fun c16 => ?_) (fun c16 => ?_)
        · have h := br_p c16 h
          exact b25   x1 _ _ _ h hP hS (lv_sub hl [0, 1] rfl)
        · have h := br_n c16 h
          obtain ⟨v3, ev3⟩ : ∃ z : Int32, z = (x1 + 1) := ⟨_, rfl⟩
          have h := lt_at ev3 h
          refine lv_iinc (v := v3) (lv' := [(1, .int v3), (0, .ref (q 0))]) hx hb dX11_firstWaiting_19 hl (k := 1) rfl (by rw [ev3]; rfl) (by decide) rfl (fun ls hl => ?_)
          refine lv_goto (tgt := 2) hx hb dX11_firstWaiting_22 rfl ?_
          exact ih v3 _ _ _ h hP hS (lv_sub hl [1, 0] rfl)
  unfold f_X11_firstWaiting at h
  refine lv_iconst (v := 0) hx hb dX11_firstWaiting_0 rfl ?_
  refine lv_istore_n (lv' := [(1, .int 0), (0, .ref (q 0))]) hx hb dX11_firstWaiting_1 rfl hl (by decide) rfl (fun ls hl => ?_)
  exact l2  FU (0 : Int32) _ _ _ h hP hS (lv_sub hl [1, 0] rfl)
abbrev rm_X11_standsIn : Room := { frames := 1, cells := 0, slots := 0, locals := 22 }
set_option maxRecDepth 100000 in
set_option maxHeartbeats 4000000 in
theorem c_X11_standsIn {g : gT} {l : Launch} {A : Nat → Prop} {q : Nat → Nat} {m_thrown : Int32} {m_length : Int32} {m_at : Int32} {m_fault : Int32} {m_toldWords : Int32} {m_orders : Int32} {m_value : Int32} {m_hasUnit : Bool} {m_places : Int32} {m_clocks : Int32} {m_held : Bool} {m_x : Int64} {m_y : Int64} {m_z : Int64} {m_first : Int64} {m_second : Int64} {m_aside : Int32} {m_jobs : Int32} {m_jobsImage : Int32} {m_clocksImage : Int32} {m_heldImage : Bool} {m_hasImage : Bool} {m_tape : Nat → Int32} {m_read : Nat → Int32} {m_order : Nat → Int32} {m_width : Nat → Int32} {m_guard : Nat → Int32} {m_points : Nat → Int32} {m_stages : Nat → Int32} {m_gain : Nat → Int32} {m_undo : Nat → Int32} {m_near : Nat → Bool} {m_quarter : Nat → Int64} {m_ln : Nat → Int64} {m_angle : Nat → Int64} {m_shift : Nat → Int32} {m_digit : Nat → Int32} {m_refused : Nat → Int32} {m_job : Nat → Int32} {m_jobKept : Nat → Int32} {m_result : Nat → Int32} {m_resultKept : Nat → Int32} {m_trace : Nat → Int64} {m_traceKept : Nat → Int64} {m_jobImage : Nat → Int32} {m_resultImage : Nat → Int32} {m_traceImage : Nat → Int64} {p0 : Int32} {o : Int32} (h : f_X11_standsIn p0 m_places m_jobs m_stages m_job = some o) : Std g l yX11_standsIn (.code yX11_standsIn cX11_standsIn 3 (some .int) :: gw) rm_X11_standsIn A [.ref (q 0), .int p0] (wM g q m_thrown m_length m_at m_fault m_toldWords m_orders m_value m_hasUnit m_places m_clocks m_held m_x m_y m_z m_first m_second m_aside m_jobs m_jobsImage m_clocksImage m_heldImage m_hasImage m_tape m_read m_order m_width m_guard m_points m_stages m_gain m_undo m_near m_quarter m_ln m_angle m_shift m_digit m_refused m_job m_jobKept m_result m_resultKept m_trace m_traceKept m_jobImage m_resultImage m_traceImage) (wM g q m_thrown m_length m_at m_fault m_toldWords m_orders m_value m_hasUnit m_places m_clocks m_held m_x m_y m_z m_first m_second m_aside m_jobs m_jobsImage m_clocksImage m_heldImage m_hasImage m_tape m_read m_order m_width m_guard m_points m_stages m_gain m_undo m_near m_quarter m_ln m_angle m_shift m_digit m_refused m_job m_jobKept m_result m_resultKept m_trace m_traceKept m_jobImage m_resultImage m_traceImage) (some (.int o)) := by
  refine std_i (own := RX11) (by decide +kernel) rfl (Nat.le_of_ble_eq_true rfl) ?_
  intro p e s m args below meth c Q X ret H locs hP hS ls hl
  have hx := X.1
  have hb := X.2.1
  have hl : lv_has ls 3 [(0, .ref (q 0)), (1, .int p0)] := hl
  have ret : ∀ {H : Heap} {locs : List Loc} {pc : Nat} {ls : Array Slot} {v : Int32} , some (v) = some o → WP g A (wM g q m_thrown m_length m_at m_fault m_toldWords m_orders m_value m_hasUnit m_places m_clocks m_held m_x m_y m_z m_first m_second m_aside m_jobs m_jobsImage m_clocksImage m_heldImage m_hasImage m_tape m_read m_order m_width m_guard m_points m_stages m_gain m_undo m_near m_quarter m_ln m_angle m_shift m_digit m_refused m_job m_jobKept m_result m_resultKept m_trace m_traceKept m_jobImage m_resultImage m_traceImage) H → va_S A s.heap H locs → decode cX11_standsIn pc = .ok (.ireturn, 1) → W p l e rm_X11_standsIn s m args below meth c H locs 0 0 Q (F0 m pc ls [.int v]) := by
    intro H locs pc ls v h hP hS hd
    cases h
    exact ret hP hS hd
  have b52 : ∀ (k2 : Int32 → Int32 → Option (Int32)) (hk2 : ∀ (x1 : Int32) (x2 : Int32) (H : Heap) (locs : List Loc) (ls : Array Slot), k2 x1 x2 = some o → WP g A (wM g q m_thrown m_length m_at m_fault m_toldWords m_orders m_value m_hasUnit m_places m_clocks m_held m_x m_y m_z m_first m_second m_aside m_jobs m_jobsImage m_clocksImage m_heldImage m_hasImage m_tape m_read m_order m_width m_guard m_points m_stages m_gain m_undo m_near m_quarter m_ln m_angle m_shift m_digit m_refused m_job m_jobKept m_result m_resultKept m_trace m_traceKept m_jobImage m_resultImage m_traceImage) H → va_S A s.heap H locs → lv_has ls 3 [(0, .ref (q 0)), (1, .int x1), (2, .int x2)] → W p l e rm_X11_standsIn s m args below meth c H locs 0 0 Q (F0 m 2 ls [])) , ∀ (x1 : Int32) (x2 : Int32) (H : Heap) (locs : List Loc) (ls : Array Slot), f_X11_standsIn_b52  m_places m_jobs m_stages m_job k2 x1 x2 = some o → WP g A (wM g q m_thrown m_length m_at m_fault m_toldWords m_orders m_value m_hasUnit m_places m_clocks m_held m_x m_y m_z m_first m_second m_aside m_jobs m_jobsImage m_clocksImage m_heldImage m_hasImage m_tape m_read m_order m_width m_guard m_points m_stages m_gain m_undo m_near m_quarter m_ln m_angle m_shift m_digit m_refused m_job m_jobKept m_result m_resultKept m_trace m_traceKept m_jobImage m_resultImage m_traceImage) H → va_S A s.heap H locs → lv_has ls 3 [(0, .ref (q 0)), (1, .int x1), (2, .int x2)] → W p l e rm_X11_standsIn s m args below meth c H locs 0 0 Q (F0 m 52 ls []) := by
    intro k2 hk2 x1 x2 H locs ls h hP hS hl
    unfold f_X11_standsIn_b52 at h
    obtain ⟨v2, ev2⟩ : ∃ z : Int32, z = (x2 + 1) := ⟨_, rfl⟩
    have h := lt_at ev2 h
    refine lv_iinc (v := v2) (lv' := [(2, .int v2), (0, .ref (q 0)), (1, .int x1)]) hx hb dX11_standsIn_52 hl (k := 2) rfl (by rw [ev2]; rfl) (by decide) rfl (fun ls hl => ?_)
    refine lv_goto (tgt := 2) hx hb dX11_standsIn_55 rfl ?_
    exact hk2 x1 v2 _ _ _ h hP hS (lv_sub hl [1, 2, 0] rfl)
  have l2 : ∀ (n : Nat), ∀ (x1 : Int32) (x2 : Int32) (H : Heap) (locs : List Loc) (ls : Array Slot), f_X11_standsIn_l2  m_places m_jobs m_stages m_job  n x1 x2 = some o → WP g A (wM g q m_thrown m_length m_at m_fault m_toldWords m_orders m_value m_hasUnit m_places m_clocks m_held m_x m_y m_z m_first m_second m_aside m_jobs m_jobsImage m_clocksImage m_heldImage m_hasImage m_tape m_read m_order m_width m_guard m_points m_stages m_gain m_undo m_near m_quarter m_ln m_angle m_shift m_digit m_refused m_job m_jobKept m_result m_resultKept m_trace m_traceKept m_jobImage m_resultImage m_traceImage) H → va_S A s.heap H locs → lv_has ls 3 [(0, .ref (q 0)), (1, .int x1), (2, .int x2)] → W p l e rm_X11_standsIn s m args below meth c H locs 0 0 Q (F0 m 2 ls []) := by
    intro  n
    induction n with
    | zero =>
      intro x1 x2 H locs ls h
      exact nz_of h
    | succ n ih =>
      intro x1 x2 H locs ls h hP hS hl
      rw [f_X11_standsIn_l2] at h
      refine lv_iload_n hx hb dX11_standsIn_2 rfl (lv_at hl 2 rfl) ?_
      refine lv_aload_n hx hb dX11_standsIn_3 rfl (lv_at hl 0 rfl) ?_
      refine gf_X11_273_M_0 X hP dX11_standsIn_4 ?_
      refine lv_icmp_ge (tgt := 58) hx hb dX11_standsIn_7 rfl (fun c7 => ?_) (fun c7 => ?_)
      · have h := br_p c7 h
        refine lv_iconst (v := (-1)) hx hb dX11_standsIn_58 rfl ?_
        exact ret h hP hS dX11_standsIn_59
      · have h := br_n c7 h
        refine lv_aload_n hx hb dX11_standsIn_10 rfl (lv_at hl 0 rfl) ?_
        refine lv_iload_n hx hb dX11_standsIn_11 rfl (lv_at hl 2 rfl) ?_
        refine lv_iconst (v := 4) hx hb dX11_standsIn_12 rfl ?_
        obtain ⟨o1, hco1, h⟩ := bd_of h
        refine kV (rest := []) X dX11_standsIn_13 wd_7_78 mw_X11_of wd_7_80 wp_9_3 hP (k0 := 0) rfl rfl rfl hS (fun _ z => z) (c_X11_of hco1) rfl hl.1 rfl (Nat.le_of_ble_eq_true rfl) rfl rfl ⟨Nat.le_of_ble_eq_true rfl, Nat.le_of_ble_eq_true rfl⟩ (fun H locs hP _ _ hS => ?_)
        refine W.eq (g2 := F0 m 16 ls [.int o1]) rfl ?_
        refine lv_iconst (v := 1) hx hb dX11_standsIn_16 rfl ?_
        refine lv_icmp_ne (tgt := 52) hx hb dX11_standsIn_17 rfl (fun c17 => ?_) (fun c17 => ?_)
        · have h := br_n c17 h
          exact b52 (f_X11_standsIn_l2  m_places m_jobs m_stages m_job  n) ih  x1 x2 _ _ _ h hP hS (lv_sub hl [0, 1, 2] rfl)
        · have h := br_p c17 h
          refine lv_aload_n hx hb dX11_standsIn_20 rfl (lv_at hl 0 rfl) ?_
          refine lv_iload_n hx hb dX11_standsIn_21 rfl (lv_at hl 2 rfl) ?_
          refine lv_iconst (v := 5) hx hb dX11_standsIn_22 rfl ?_
          obtain ⟨o3, hco3, h⟩ := bd_of h
          refine kV (rest := []) X dX11_standsIn_23 wd_7_78 mw_X11_of wd_7_80 wp_9_3 hP (k0 := 0) rfl rfl rfl hS (fun _ z => z) (c_X11_of hco3) rfl hl.1 rfl (Nat.le_of_ble_eq_true rfl) rfl rfl ⟨Nat.le_of_ble_eq_true rfl, Nat.le_of_ble_eq_true rfl⟩ (fun H locs hP _ _ hS => ?_)
          refine W.eq (g2 := F0 m 26 ls [.int o3]) rfl ?_
          refine lv_aload_n hx hb dX11_standsIn_26 rfl (lv_at hl 0 rfl) ?_
          refine gf_X11_171_M_0 X hP dX11_standsIn_27 ?_
          refine lv_iconst (v := 0) hx hb dX11_standsIn_30 rfl ?_
          obtain ⟨hi31, h⟩ := gv_of h
          refine al_M_7 X hP hi31 dX11_standsIn_31 ?_
          refine lv_icmp_ge (tgt := 52) hx hb dX11_standsIn_32 rfl (fun c32 => ?_) (fun c32 => ?_)
          · have h := br_p c32 h
            exact b52 (f_X11_standsIn_l2  m_places m_jobs m_stages m_job  n) ih  x1 x2 _ _ _ h hP hS (lv_sub hl [0, 1, 2] rfl)
          · have h := br_n c32 h
            refine lv_aload_n hx hb dX11_standsIn_35 rfl (lv_at hl 0 rfl) ?_
            refine lv_iload_n hx hb dX11_standsIn_36 rfl (lv_at hl 2 rfl) ?_
            refine lv_iconst (v := 5) hx hb dX11_standsIn_37 rfl ?_
            obtain ⟨o4, hco4, h⟩ := bd_of h
            refine kV (rest := []) X dX11_standsIn_38 wd_7_78 mw_X11_of wd_7_80 wp_9_3 hP (k0 := 0) rfl rfl rfl hS (fun _ z => z) (c_X11_of hco4) rfl hl.1 rfl (Nat.le_of_ble_eq_true rfl) rfl rfl ⟨Nat.le_of_ble_eq_true rfl, Nat.le_of_ble_eq_true rfl⟩ (fun H locs hP _ _ hS => ?_)
            refine W.eq (g2 := F0 m 41 ls [.int o4]) rfl ?_
            refine lv_aload_n hx hb dX11_standsIn_41 rfl (lv_at hl 0 rfl) ?_
            refine gf_X11_264_M_0 X hP dX11_standsIn_42 ?_
            obtain ⟨cz45, h⟩ := gz_of h
            refine lv_irem hx hb dX11_standsIn_45 cz45 ?_
            refine lv_iload_n hx hb dX11_standsIn_46 rfl (lv_at hl 1 rfl) ?_
            refine lv_icmp_ne (tgt := 52) hx hb dX11_standsIn_47 rfl (fun c47 => ?_) (fun c47 => ?_)
            · have h := br_n c47 h
              exact b52 (f_X11_standsIn_l2  m_places m_jobs m_stages m_job  n) ih  x1 x2 _ _ _ h hP hS (lv_sub hl [0, 1, 2] rfl)
            · have h := br_p c47 h
              refine lv_iload_n hx hb dX11_standsIn_50 rfl (lv_at hl 2 rfl) ?_
              exact ret h hP hS dX11_standsIn_51
  unfold f_X11_standsIn at h
  refine lv_iconst (v := 0) hx hb dX11_standsIn_0 rfl ?_
  refine lv_istore_n (lv' := [(2, .int 0), (0, .ref (q 0)), (1, .int p0)]) hx hb dX11_standsIn_1 rfl hl (by decide) rfl (fun ls hl => ?_)
  exact l2  FU p0 (0 : Int32) _ _ _ h hP hS (lv_sub hl [1, 2, 0] rfl)
abbrev rm_X11_hangs : Room := { frames := 1, cells := 0, slots := 0, locals := 22 }
set_option maxRecDepth 100000 in
set_option maxHeartbeats 4000000 in
theorem c_X11_hangs {g : gT} {l : Launch} {A : Nat → Prop} {q : Nat → Nat} {m_thrown : Int32} {m_length : Int32} {m_at : Int32} {m_fault : Int32} {m_toldWords : Int32} {m_orders : Int32} {m_value : Int32} {m_hasUnit : Bool} {m_places : Int32} {m_clocks : Int32} {m_held : Bool} {m_x : Int64} {m_y : Int64} {m_z : Int64} {m_first : Int64} {m_second : Int64} {m_aside : Int32} {m_jobs : Int32} {m_jobsImage : Int32} {m_clocksImage : Int32} {m_heldImage : Bool} {m_hasImage : Bool} {m_tape : Nat → Int32} {m_read : Nat → Int32} {m_order : Nat → Int32} {m_width : Nat → Int32} {m_guard : Nat → Int32} {m_points : Nat → Int32} {m_stages : Nat → Int32} {m_gain : Nat → Int32} {m_undo : Nat → Int32} {m_near : Nat → Bool} {m_quarter : Nat → Int64} {m_ln : Nat → Int64} {m_angle : Nat → Int64} {m_shift : Nat → Int32} {m_digit : Nat → Int32} {m_refused : Nat → Int32} {m_job : Nat → Int32} {m_jobKept : Nat → Int32} {m_result : Nat → Int32} {m_resultKept : Nat → Int32} {m_trace : Nat → Int64} {m_traceKept : Nat → Int64} {m_jobImage : Nat → Int32} {m_resultImage : Nat → Int32} {m_traceImage : Nat → Int64} {p0 : Int32} {o : Bool} (h : f_X11_hangs p0 m_job = some o) : Std g l yX11_hangs (.code yX11_hangs cX11_hangs 3 (some .boolean) :: gw) rm_X11_hangs A [.ref (q 0), .int p0] (wM g q m_thrown m_length m_at m_fault m_toldWords m_orders m_value m_hasUnit m_places m_clocks m_held m_x m_y m_z m_first m_second m_aside m_jobs m_jobsImage m_clocksImage m_heldImage m_hasImage m_tape m_read m_order m_width m_guard m_points m_stages m_gain m_undo m_near m_quarter m_ln m_angle m_shift m_digit m_refused m_job m_jobKept m_result m_resultKept m_trace m_traceKept m_jobImage m_resultImage m_traceImage) (wM g q m_thrown m_length m_at m_fault m_toldWords m_orders m_value m_hasUnit m_places m_clocks m_held m_x m_y m_z m_first m_second m_aside m_jobs m_jobsImage m_clocksImage m_heldImage m_hasImage m_tape m_read m_order m_width m_guard m_points m_stages m_gain m_undo m_near m_quarter m_ln m_angle m_shift m_digit m_refused m_job m_jobKept m_result m_resultKept m_trace m_traceKept m_jobImage m_resultImage m_traceImage) (some (.int (bI o))) := by
  refine std_z (own := RX11) (by decide +kernel) rfl (Nat.le_of_ble_eq_true rfl) ?_
  intro p e s m args below meth c Q X ret H locs hP hS ls hl
  have hx := X.1
  have hb := X.2.1
  have hl : lv_has ls 3 [(0, .ref (q 0)), (1, .int p0)] := hl
  have ret : ∀ {H : Heap} {locs : List Loc} {pc : Nat} {ls : Array Slot} {v : Bool} , some (v) = some o → WP g A (wM g q m_thrown m_length m_at m_fault m_toldWords m_orders m_value m_hasUnit m_places m_clocks m_held m_x m_y m_z m_first m_second m_aside m_jobs m_jobsImage m_clocksImage m_heldImage m_hasImage m_tape m_read m_order m_width m_guard m_points m_stages m_gain m_undo m_near m_quarter m_ln m_angle m_shift m_digit m_refused m_job m_jobKept m_result m_resultKept m_trace m_traceKept m_jobImage m_resultImage m_traceImage) H → va_S A s.heap H locs → decode cX11_hangs pc = .ok (.ireturn, 1) → W p l e rm_X11_hangs s m args below meth c H locs 0 0 Q (F0 m pc ls [.int (bI v)]) := by
    intro H locs pc ls v h hP hS hd
    cases h
    exact ret hP hS hd
  have b42 : ∀ (k2 : Int32 → Int32 → Option (Bool)) (hk2 : ∀ (x1 : Int32) (x2 : Int32) (H : Heap) (locs : List Loc) (ls : Array Slot), k2 x1 x2 = some o → WP g A (wM g q m_thrown m_length m_at m_fault m_toldWords m_orders m_value m_hasUnit m_places m_clocks m_held m_x m_y m_z m_first m_second m_aside m_jobs m_jobsImage m_clocksImage m_heldImage m_hasImage m_tape m_read m_order m_width m_guard m_points m_stages m_gain m_undo m_near m_quarter m_ln m_angle m_shift m_digit m_refused m_job m_jobKept m_result m_resultKept m_trace m_traceKept m_jobImage m_resultImage m_traceImage) H → va_S A s.heap H locs → lv_has ls 3 [(0, .ref (q 0)), (1, .int x1), (2, .int x2)] → W p l e rm_X11_hangs s m args below meth c H locs 0 0 Q (F0 m 2 ls [])) , ∀ (x1 : Int32) (x2 : Int32) (H : Heap) (locs : List Loc) (ls : Array Slot), f_X11_hangs_b42  m_job k2 x1 x2 = some o → WP g A (wM g q m_thrown m_length m_at m_fault m_toldWords m_orders m_value m_hasUnit m_places m_clocks m_held m_x m_y m_z m_first m_second m_aside m_jobs m_jobsImage m_clocksImage m_heldImage m_hasImage m_tape m_read m_order m_width m_guard m_points m_stages m_gain m_undo m_near m_quarter m_ln m_angle m_shift m_digit m_refused m_job m_jobKept m_result m_resultKept m_trace m_traceKept m_jobImage m_resultImage m_traceImage) H → va_S A s.heap H locs → lv_has ls 3 [(0, .ref (q 0)), (1, .int x1), (2, .int x2)] → W p l e rm_X11_hangs s m args below meth c H locs 0 0 Q (F0 m 42 ls []) := by
    intro k2 hk2 x1 x2 H locs ls h hP hS hl
    unfold f_X11_hangs_b42 at h
    obtain ⟨v2, ev2⟩ : ∃ z : Int32, z = (x2 + 1) := ⟨_, rfl⟩
    have h := lt_at ev2 h
    refine lv_iinc (v := v2) (lv' := [(2, .int v2), (0, .ref (q 0)), (1, .int x1)]) hx hb dX11_hangs_42 hl (k := 2) rfl (by rw [ev2]; rfl) (by decide) rfl (fun ls hl => ?_)
    refine lv_goto (tgt := 2) hx hb dX11_hangs_45 rfl ?_
    exact hk2 x1 v2 _ _ _ h hP hS (lv_sub hl [1, 2, 0] rfl)
  have l2 : ∀ (n : Nat), ∀ (x1 : Int32) (x2 : Int32) (H : Heap) (locs : List Loc) (ls : Array Slot), f_X11_hangs_l2  m_job  n x1 x2 = some o → WP g A (wM g q m_thrown m_length m_at m_fault m_toldWords m_orders m_value m_hasUnit m_places m_clocks m_held m_x m_y m_z m_first m_second m_aside m_jobs m_jobsImage m_clocksImage m_heldImage m_hasImage m_tape m_read m_order m_width m_guard m_points m_stages m_gain m_undo m_near m_quarter m_ln m_angle m_shift m_digit m_refused m_job m_jobKept m_result m_resultKept m_trace m_traceKept m_jobImage m_resultImage m_traceImage) H → va_S A s.heap H locs → lv_has ls 3 [(0, .ref (q 0)), (1, .int x1), (2, .int x2)] → W p l e rm_X11_hangs s m args below meth c H locs 0 0 Q (F0 m 2 ls []) := by
    intro  n
    induction n with
    | zero =>
      intro x1 x2 H locs ls h
      exact nz_of h
    | succ n ih =>
      intro x1 x2 H locs ls h hP hS hl
      rw [f_X11_hangs_l2] at h
      refine lv_iload_n hx hb dX11_hangs_2 rfl (lv_at hl 2 rfl) ?_
      refine lv_iconst (v := 3) hx hb dX11_hangs_3 rfl ?_
      refine lv_icmp_ge (tgt := 48) hx hb dX11_hangs_4 rfl (fun c4 => ?_) (fun c4 => ?_)
      · have h := br_p c4 h
        refine lv_iconst (v := 0) hx hb dX11_hangs_48 rfl ?_
        exact ret h hP hS dX11_hangs_49
      · have h := br_n c4 h
        refine lv_aload_n hx hb dX11_hangs_7 rfl (lv_at hl 0 rfl) ?_
        refine lv_iload_n hx hb dX11_hangs_8 rfl (lv_at hl 1 rfl) ?_
        refine lv_bipush (v := 10) hx hb dX11_hangs_9 rfl ?_
        refine lv_iload_n hx hb dX11_hangs_11 rfl (lv_at hl 2 rfl) ?_
        refine lv_iadd hx hb dX11_hangs_12 ?_
        obtain ⟨o1, hco1, h⟩ := bd_of h
        refine kV (rest := []) X dX11_hangs_13 wd_7_78 mw_X11_of wd_7_80 wp_9_3 hP (k0 := 0) rfl rfl rfl hS (fun _ z => z) (c_X11_of hco1) rfl hl.1 rfl (Nat.le_of_ble_eq_true rfl) rfl rfl ⟨Nat.le_of_ble_eq_true rfl, Nat.le_of_ble_eq_true rfl⟩ (fun H locs hP _ _ hS => ?_)
        refine W.eq (g2 := F0 m 16 ls [.int o1]) rfl ?_
        refine lv_iconst (v := (-1)) hx hb dX11_hangs_16 rfl ?_
        refine lv_icmp_eq (tgt := 42) hx hb dX11_hangs_17 rfl (fun c17 => ?_) (fun c17 => ?_)
        · have h := br_p c17 h
          exact b42 (f_X11_hangs_l2  m_job  n) ih  x1 x2 _ _ _ h hP hS (lv_sub hl [0, 1, 2] rfl)
        · have h := br_n c17 h
          refine lv_aload_n hx hb dX11_hangs_20 rfl (lv_at hl 0 rfl) ?_
          refine lv_aload_n hx hb dX11_hangs_21 rfl (lv_at hl 0 rfl) ?_
          refine lv_iload_n hx hb dX11_hangs_22 rfl (lv_at hl 1 rfl) ?_
          refine lv_bipush (v := 10) hx hb dX11_hangs_23 rfl ?_
          refine lv_iload_n hx hb dX11_hangs_25 rfl (lv_at hl 2 rfl) ?_
          refine lv_iadd hx hb dX11_hangs_26 ?_
          obtain ⟨o3, hco3, h⟩ := bd_of h
          refine kV (rest := [.ref (q 0)]) X dX11_hangs_27 wd_7_78 mw_X11_of wd_7_80 wp_9_3 hP (k0 := 0) rfl rfl rfl hS (fun _ z => z) (c_X11_of hco3) rfl hl.1 rfl (Nat.le_of_ble_eq_true rfl) rfl rfl ⟨Nat.le_of_ble_eq_true rfl, Nat.le_of_ble_eq_true rfl⟩ (fun H locs hP _ _ hS => ?_)
          refine W.eq (g2 := F0 m 30 ls [.int o3, .ref (q 0)]) rfl ?_
          refine lv_iconst (v := 2) hx hb dX11_hangs_30 rfl ?_
          obtain ⟨cz31, h⟩ := gz_of h
          refine lv_idiv hx hb dX11_hangs_31 cz31 ?_
          refine lv_iconst (v := 4) hx hb dX11_hangs_32 rfl ?_
          obtain ⟨o4, hco4, h⟩ := bd_of h
          refine kV (rest := []) X dX11_hangs_33 wd_7_78 mw_X11_of wd_7_80 wp_9_3 hP (k0 := 0) rfl rfl rfl hS (fun _ z => z) (c_X11_of hco4) rfl hl.1 rfl (Nat.le_of_ble_eq_true rfl) rfl rfl ⟨Nat.le_of_ble_eq_true rfl, Nat.le_of_ble_eq_true rfl⟩ (fun H locs hP _ _ hS => ?_)
          refine W.eq (g2 := F0 m 36 ls [.int o4]) rfl ?_
          refine lv_iconst (v := 2) hx hb dX11_hangs_36 rfl ?_
          refine lv_icmp_ge (tgt := 42) hx hb dX11_hangs_37 rfl (fun c37 => ?_) (fun c37 => ?_)
          · have h := br_p c37 h
            exact b42 (f_X11_hangs_l2  m_job  n) ih  x1 x2 _ _ _ h hP hS (lv_sub hl [0, 1, 2] rfl)
          · have h := br_n c37 h
            refine lv_iconst (v := 1) hx hb dX11_hangs_40 rfl ?_
            exact ret h hP hS dX11_hangs_41
  unfold f_X11_hangs at h
  refine lv_iconst (v := 0) hx hb dX11_hangs_0 rfl ?_
  refine lv_istore_n (lv' := [(2, .int 0), (0, .ref (q 0)), (1, .int p0)]) hx hb dX11_hangs_1 rfl hl (by decide) rfl (fun ls hl => ?_)
  exact l2  FU p0 (0 : Int32) _ _ _ h hP hS (lv_sub hl [1, 2, 0] rfl)
