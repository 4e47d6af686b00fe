abbrev rm_X11_begins : Room := { frames := 2, cells := 0, slots := 0, locals := 48 }
set_option maxRecDepth 100000 in
set_option maxHeartbeats 4000000 in
theorem c_X11_begins {g : gT} {l : Launch} {A : Nat → Prop} {q : Nat → Nat} {m_thrown : Int32} {m_length : Int32} {m_at : Int32} {m_fault : Int32} {m_toldWords : Int32} {m_orders : Int32} {m_value : Int32} {m_hasUnit : Bool} {m_places : Int32} {m_clocks : Int32} {m_held : Bool} {m_x : Int64} {m_y : Int64} {m_z : Int64} {m_first : Int64} {m_second : Int64} {m_aside : Int32} {m_jobs : Int32} {m_jobsImage : Int32} {m_clocksImage : Int32} {m_heldImage : Bool} {m_hasImage : Bool} {m_tape : Nat → Int32} {m_read : Nat → Int32} {m_order : Nat → Int32} {m_width : Nat → Int32} {m_guard : Nat → Int32} {m_points : Nat → Int32} {m_stages : Nat → Int32} {m_gain : Nat → Int32} {m_undo : Nat → Int32} {m_near : Nat → Bool} {m_quarter : Nat → Int64} {m_ln : Nat → Int64} {m_angle : Nat → Int64} {m_shift : Nat → Int32} {m_digit : Nat → Int32} {m_refused : Nat → Int32} {m_job : Nat → Int32} {m_jobKept : Nat → Int32} {m_result : Nat → Int32} {m_resultKept : Nat → Int32} {m_trace : Nat → Int64} {m_traceKept : Nat → Int64} {m_jobImage : Nat → Int32} {m_resultImage : Nat → Int32} {m_traceImage : Nat → Int64} {p0 : Int32} {p1 : Int32} {p2 : Int64} {p3 : Int64} {p4 : Int64} {o : Int64 × Int64 × Int64 × Int64 × Int64 × Int32} (h : f_X11_begins p0 p1 p2 p3 p4 m_x m_y m_z m_first m_second m_aside m_guard m_points m_undo m_near m_quarter m_ln = some o) : Std g l yX11_begins (.code yX11_begins cX11_begins 14 none :: gw) rm_X11_begins A [.ref (q 0), .int p0, .int p1, .long p2, .long p3, .long p4] (wM g q m_thrown m_length m_at m_fault m_toldWords m_orders m_value m_hasUnit m_places m_clocks m_held m_x m_y m_z m_first m_second m_aside m_jobs m_jobsImage m_clocksImage m_heldImage m_hasImage m_tape m_read m_order m_width m_guard m_points m_stages m_gain m_undo m_near m_quarter m_ln m_angle m_shift m_digit m_refused m_job m_jobKept m_result m_resultKept m_trace m_traceKept m_jobImage m_resultImage m_traceImage) (wM g q m_thrown m_length m_at m_fault m_toldWords m_orders m_value m_hasUnit m_places m_clocks m_held o.1 o.2.1 o.2.2.1 o.2.2.2.1 o.2.2.2.2.1 o.2.2.2.2.2 m_jobs m_jobsImage m_clocksImage m_heldImage m_hasImage m_tape m_read m_order m_width m_guard m_points m_stages m_gain m_undo m_near m_quarter m_ln m_angle m_shift m_digit m_refused m_job m_jobKept m_result m_resultKept m_trace m_traceKept m_jobImage m_resultImage m_traceImage) none := by
  refine std_v (own := RX11) (by decide +kernel) rfl (Nat.le_of_ble_eq_true rfl) ?_
  intro p e s m args below meth c Q X ret H locs hP hS ls hl
  have hx := X.1
  have hb := X.2.1
  have hl : lv_has ls 14 [(0, .ref (q 0)), (1, .int p0), (2, .int p1), (3, .long p2), (5, .long p3), (7, .long p4)] := hl
  have ret : ∀ {H : Heap} {locs : List Loc} {pc : Nat} {ls : Array Slot} {m_x : Int64} {m_y : Int64} {m_z : Int64} {m_first : Int64} {m_second : Int64} {m_aside : Int32}, some (m_x, m_y, m_z, m_first, m_second, m_aside) = some o → WP g A (wM g q m_thrown m_length m_at m_fault m_toldWords m_orders m_value m_hasUnit m_places m_clocks m_held m_x m_y m_z m_first m_second m_aside m_jobs m_jobsImage m_clocksImage m_heldImage m_hasImage m_tape m_read m_order m_width m_guard m_points m_stages m_gain m_undo m_near m_quarter m_ln m_angle m_shift m_digit m_refused m_job m_jobKept m_result m_resultKept m_trace m_traceKept m_jobImage m_resultImage m_traceImage) H → va_S A s.heap H locs → decode cX11_begins pc = .ok (.return_, 1) → W p l e rm_X11_begins s m args below meth c H locs 0 0 Q (F0 m pc ls []) := by
    intro H locs pc ls m_x m_y m_z m_first m_second m_aside h hP hS hd
    cases h
    exact ret hP hS hd
  have b219 : ∀ (t1 : Int64) (m_x : Int64) (m_y : Int64) (m_z : Int64) (m_first : Int64) (m_second : Int64) (m_aside : Int32) (H : Heap) (locs : List Loc) (ls : Array Slot), f_X11_begins_b219  m_guard m_points m_undo m_near m_quarter m_ln  t1 m_x m_y m_z m_first m_second m_aside = some o → WP g A (wM g q m_thrown m_length m_at m_fault m_toldWords m_orders m_value m_hasUnit m_places m_clocks m_held m_x m_y m_z m_first m_second m_aside m_jobs m_jobsImage m_clocksImage m_heldImage m_hasImage m_tape m_read m_order m_width m_guard m_points m_stages m_gain m_undo m_near m_quarter m_ln m_angle m_shift m_digit m_refused m_job m_jobKept m_result m_resultKept m_trace m_traceKept m_jobImage m_resultImage m_traceImage) H → va_S A s.heap H locs → lv_has ls 14 [] → W p l e rm_X11_begins s m args below meth c H locs 0 0 Q (F0 m 219 ls [.long t1, .ref (q 0)]) := by
    intro  t1 m_x m_y m_z m_first m_second m_aside H locs ls h hP hS hl
    unfold f_X11_begins_b219 at h
    refine pf_X11_331_M_0 (v0 := t1) X hP hS dX11_begins_219 (fun H locs hP hS => ?_)
    exact ret h hP hS dX11_begins_222
  have l223 : ∀ (n : Nat), ∀ (x1 : Int32) (x9 : Int64) (x11 : Int64) (x13 : Int32) (m_x : Int64) (m_y : Int64) (m_z : Int64) (m_first : Int64) (m_second : Int64) (m_aside : Int32) (H : Heap) (locs : List Loc) (ls : Array Slot), f_X11_begins_l223  m_guard m_points m_undo m_near m_quarter m_ln  n x1 x9 x11 x13 m_x m_y m_z m_first m_second m_aside = some o → WP g A (wM g q m_thrown m_length m_at m_fault m_toldWords m_orders m_value m_hasUnit m_places m_clocks m_held m_x m_y m_z m_first m_second m_aside m_jobs m_jobsImage m_clocksImage m_heldImage m_hasImage m_tape m_read m_order m_width m_guard m_points m_stages m_gain m_undo m_near m_quarter m_ln m_angle m_shift m_digit m_refused m_job m_jobKept m_result m_resultKept m_trace m_traceKept m_jobImage m_resultImage m_traceImage) H → va_S A s.heap H locs → lv_has ls 14 [(0, .ref (q 0)), (1, .int x1), (9, .long x9), (11, .long x11), (13, .int x13)] → W p l e rm_X11_begins s m args below meth c H locs 0 0 Q (F0 m 223 ls []) := by
    intro  n
    induction n with
    | zero =>
      intro x1 x9 x11 x13 m_x m_y m_z m_first m_second m_aside H locs ls h
      exact nz_of h
    | succ n ih =>
      intro x1 x9 x11 x13 m_x m_y m_z m_first m_second m_aside H locs ls h hP hS hl
      rw [f_X11_begins_l223] at h
      refine lv_lload hx hb dX11_begins_223 (lv_at hl 3 rfl) ?_
      obtain ⟨o10, hco10, h⟩ := bd_of h
      refine kS (rest := []) X dX11_begins_225 wd_6_211 mw_J9_abs_067f4 wd_3_171 hP hS (fun _ z => z) (c_J9_abs_067f4 hco10) rfl hl.1 rfl (Nat.le_of_ble_eq_true rfl) rfl rfl ⟨Nat.le_of_ble_eq_true rfl, Nat.le_of_ble_eq_true rfl⟩ (fun H locs hP _ _ hS => ?_)
      refine W.eq (g2 := F0 m 228 ls [.long o10]) rfl ?_
      refine lv_lconst (v := 1) hx hb dX11_begins_228 rfl ?_
      refine lv_iload hx hb dX11_begins_229 (lv_at hl 4 rfl) ?_
      refine lv_aload_n hx hb dX11_begins_231 rfl (lv_at hl 0 rfl) ?_
      refine gf_X11_337_M_0 X hP dX11_begins_232 ?_
      refine lv_iadd hx hb dX11_begins_235 ?_
      refine lv_lshl hx hb dX11_begins_236 rfl ?_
      refine rl_le (tgt := 254) hx hb dX11_begins_237 dX11_begins_238 rfl (fun c237 => ?_) (fun c237 => ?_)
      · have h := br_p c237 h
        refine lv_aload_n hx hb dX11_begins_254 rfl (lv_at hl 0 rfl) ?_
        refine lv_lload hx hb dX11_begins_255 (lv_at hl 2 rfl) ?_
        refine pf_X11_344_M_0 (v0 := x9) X hP hS dX11_begins_257 (fun H locs hP hS => ?_)
        refine lv_aload_n hx hb dX11_begins_260 rfl (lv_at hl 0 rfl) ?_
        refine lv_aload_n hx hb dX11_begins_261 rfl (lv_at hl 0 rfl) ?_
        refine lv_iload_n hx hb dX11_begins_262 rfl (lv_at hl 1 rfl) ?_
        refine lv_lload hx hb dX11_begins_263 (lv_at hl 3 rfl) ?_
        refine lv_aload_n hx hb dX11_begins_265 rfl (lv_at hl 0 rfl) ?_
        refine gf_X11_337_M_0 X hP dX11_begins_266 ?_
        obtain ⟨o11, hco11, h⟩ := bd_of h
        refine kV (rest := [.ref (q 0)]) X dX11_begins_269 wd_6_187 mw_X11_shifted wd_6_189 wp_8_1 hP (k0 := 0) rfl rfl rfl hS (fun _ z => z) (c_X11_shifted hco11) rfl hl.1 rfl (Nat.le_of_ble_eq_true rfl) rfl rfl ⟨Nat.le_of_ble_eq_true rfl, Nat.le_of_ble_eq_true rfl⟩ (fun H locs hP _ _ hS => ?_)
        refine W.eq (g2 := F0 m 272 ls [.long o11, .ref (q 0)]) rfl ?_
        refine pf_X11_331_M_0 (v0 := o11) X hP hS dX11_begins_272 (fun H locs hP hS => ?_)
        exact ret h hP hS dX11_begins_275
      · have h := br_n c237 h
        refine lv_aload_n hx hb dX11_begins_241 rfl (lv_at hl 0 rfl) ?_
        refine lv_dup hx hb dX11_begins_242 rfl ?_
        refine gf_X11_337_M_0 X hP dX11_begins_243 ?_
        refine lv_iconst (v := 1) hx hb dX11_begins_246 rfl ?_
        refine lv_iadd hx hb dX11_begins_247 ?_
        refine lv_topi (fun v12 ev12 => ?_)
        have h := lt_at ev12 h
        refine pf_X11_337_M_0 (v0 := v12) X hP hS dX11_begins_248 (fun H locs hP hS => ?_)
        refine lv_goto (tgt := 223) hx hb dX11_begins_251 rfl ?_
        exact ih x1 x9 x11 x13 m_x m_y m_z m_first m_second v12 _ _ _ h hP hS (lv_sub hl [0, 1, 2, 3, 4] rfl)
  have l304 : ∀ (n : Nat), ∀ (m_x : Int64) (m_y : Int64) (m_z : Int64) (m_first : Int64) (m_second : Int64) (m_aside : Int32) (H : Heap) (locs : List Loc) (ls : Array Slot), f_X11_begins_l304  m_guard m_points m_undo m_near m_quarter m_ln  n m_x m_y m_z m_first m_second m_aside = some o → WP g A (wM g q m_thrown m_length m_at m_fault m_toldWords m_orders m_value m_hasUnit m_places m_clocks m_held m_x m_y m_z m_first m_second m_aside m_jobs m_jobsImage m_clocksImage m_heldImage m_hasImage m_tape m_read m_order m_width m_guard m_points m_stages m_gain m_undo m_near m_quarter m_ln m_angle m_shift m_digit m_refused m_job m_jobKept m_result m_resultKept m_trace m_traceKept m_jobImage m_resultImage m_traceImage) H → va_S A s.heap H locs → lv_has ls 14 [(0, .ref (q 0))] → W p l e rm_X11_begins s m args below meth c H locs 0 0 Q (F0 m 304 ls []) := by
    intro  n
    induction n with
    | zero =>
      intro m_x m_y m_z m_first m_second m_aside H locs ls h
      exact nz_of h
    | succ n ih =>
      intro m_x m_y m_z m_first m_second m_aside H locs ls h hP hS hl
      rw [f_X11_begins_l304] at h
      refine lv_aload_n hx hb dX11_begins_304 rfl (lv_at hl 0 rfl) ?_
      refine gf_X11_334_M_0 X hP dX11_begins_305 ?_
      obtain ⟨o15, hco15, h⟩ := bd_of h
      refine kS (rest := []) X dX11_begins_308 wd_6_211 mw_J9_abs_067f4 wd_3_171 hP hS (fun _ z => z) (c_J9_abs_067f4 hco15) rfl hl.1 rfl (Nat.le_of_ble_eq_true rfl) rfl rfl ⟨Nat.le_of_ble_eq_true rfl, Nat.le_of_ble_eq_true rfl⟩ (fun H locs hP _ _ hS => ?_)
      refine W.eq (g2 := F0 m 311 ls [.long o15]) rfl ?_
      refine lv_aload_n hx hb dX11_begins_311 rfl (lv_at hl 0 rfl) ?_
      refine gf_X11_344_M_0 X hP dX11_begins_312 ?_
      refine lv_aload_n hx hb dX11_begins_315 rfl (lv_at hl 0 rfl) ?_
      refine gf_X11_337_M_0 X hP dX11_begins_316 ?_
      refine lv_lshl hx hb dX11_begins_319 rfl ?_
      refine rl_le (tgt := 337) hx hb dX11_begins_320 dX11_begins_321 rfl (fun c320 => ?_) (fun c320 => ?_)
      · have h := br_p c320 h
        refine lv_aload_n hx hb dX11_begins_337 rfl (lv_at hl 0 rfl) ?_
        refine lv_dup hx hb dX11_begins_338 rfl ?_
        refine gf_X11_344_M_0 X hP dX11_begins_339 ?_
        refine lv_aload_n hx hb dX11_begins_342 rfl (lv_at hl 0 rfl) ?_
        refine gf_X11_337_M_0 X hP dX11_begins_343 ?_
        refine lv_lshl hx hb dX11_begins_346 rfl ?_
        refine lv_topl (fun v16 ev16 => ?_)
        have h := lt_at ev16 h
        refine pf_X11_344_M_0 (v0 := v16) X hP hS dX11_begins_347 (fun H locs hP hS => ?_)
        exact ret h hP hS dX11_begins_350
      · have h := br_n c320 h
        refine lv_aload_n hx hb dX11_begins_324 rfl (lv_at hl 0 rfl) ?_
        refine lv_dup hx hb dX11_begins_325 rfl ?_
        refine gf_X11_337_M_0 X hP dX11_begins_326 ?_
        refine lv_iconst (v := 1) hx hb dX11_begins_329 rfl ?_
        refine lv_iadd hx hb dX11_begins_330 ?_
        refine lv_topi (fun v17 ev17 => ?_)
        have h := lt_at ev17 h
        refine pf_X11_337_M_0 (v0 := v17) X hP hS dX11_begins_331 (fun H locs hP hS => ?_)
        refine lv_goto (tgt := 304) hx hb dX11_begins_334 rfl ?_
        exact ih m_x m_y m_z m_first m_second v17 _ _ _ h hP hS (lv_sub hl [0] rfl)
  unfold f_X11_begins at h
  refine lv_lload_n hx hb dX11_begins_0 rfl (lv_at hl 3 rfl) ?_
  refine lv_aload_n hx hb dX11_begins_1 rfl (lv_at hl 0 rfl) ?_
  refine gf_X11_194_M_0 X hP dX11_begins_2 ?_
  refine lv_iload_n hx hb dX11_begins_5 rfl (lv_at hl 1 rfl) ?_
  obtain ⟨hi6, h⟩ := gv_of h
  refine al_M_5 X hP hi6 dX11_begins_6 ?_
  refine lv_lshl hx hb dX11_begins_7 rfl ?_
  refine lv_topl (fun v1 ev1 => ?_)
  have h := lt_at ev1 h
  refine lv_lstore (lv' := [(9, .long v1), (0, .ref (q 0)), (1, .int p0), (2, .int p1), (3, .long p2), (5, .long p3), (7, .long p4)]) hx hb dX11_begins_8 hl (by decide) rfl (fun ls hl => ?_)
  refine lv_lload hx hb dX11_begins_10 (lv_at hl 5 rfl) ?_
  refine lv_aload_n hx hb dX11_begins_12 rfl (lv_at hl 1 rfl) ?_
  refine gf_X11_194_M_0 X hP dX11_begins_13 ?_
  refine lv_iload_n hx hb dX11_begins_16 rfl (lv_at hl 2 rfl) ?_
  obtain ⟨hi17, h⟩ := gv_of h
  refine al_M_5 X hP hi17 dX11_begins_17 ?_
  refine lv_lshl hx hb dX11_begins_18 rfl ?_
  refine lv_topl (fun v2 ev2 => ?_)
  have h := lt_at ev2 h
  refine lv_lstore (lv' := [(11, .long v2), (9, .long v1), (0, .ref (q 0)), (1, .int p0), (2, .int p1), (3, .long p2), (5, .long p3), (7, .long p4)]) hx hb dX11_begins_19 hl (by decide) rfl (fun ls hl => ?_)
  refine lv_aload_n hx hb dX11_begins_21 rfl (lv_at hl 2 rfl) ?_
  refine gf_X11_173_M_0 X hP dX11_begins_22 ?_
  refine lv_iload_n hx hb dX11_begins_25 rfl (lv_at hl 3 rfl) ?_
  obtain ⟨hi26, h⟩ := gv_of h
  refine al_M_6 X hP hi26 dX11_begins_26 ?_
  refine lv_topi (fun v3 ev3 => ?_)
  have h := lt_at ev3 h
  refine lv_istore (lv' := [(13, .int v3), (11, .long v2), (9, .long v1), (0, .ref (q 0)), (1, .int p0), (2, .int p1), (3, .long p2), (5, .long p3), (7, .long p4)]) hx hb dX11_begins_27 hl (by decide) rfl (fun ls hl => ?_)
  refine lv_aload_n hx hb dX11_begins_29 rfl (lv_at hl 3 rfl) ?_
  refine lv_lconst (v := 0) hx hb dX11_begins_30 rfl ?_
  refine pf_X11_331_M_0 (v0 := (0 : Int64)) X hP hS dX11_begins_31 (fun H locs hP hS => ?_)
  refine lv_aload_n hx hb dX11_begins_34 rfl (lv_at hl 3 rfl) ?_
  refine lv_lconst (v := 0) hx hb dX11_begins_35 rfl ?_
  refine pf_X11_334_M_0 (v0 := (0 : Int64)) X hP hS dX11_begins_36 (fun H locs hP hS => ?_)
  refine lv_aload_n hx hb dX11_begins_39 rfl (lv_at hl 3 rfl) ?_
  refine lv_iconst (v := 0) hx hb dX11_begins_40 rfl ?_
  refine pf_X11_337_M_0 (v0 := (0 : Int32)) X hP hS dX11_begins_41 (fun H locs hP hS => ?_)
  refine lv_iload_n hx hb dX11_begins_44 rfl (lv_at hl 5 rfl) ?_
  by_cases c45_0 : p1 = 0
  · have h := br_p c45_0 h
    refine lv_tableIn (off := 47) (tgt := 92) hx hb dX11_begins_45 (by rw [c45_0]; decide) (by rw [c45_0]; decide) (by rw [c45_0]; rfl) rfl ?_
    refine lv_aload_n hx hb dX11_begins_92 rfl (lv_at hl 3 rfl) ?_
    refine lv_aload_n hx hb dX11_begins_93 rfl (lv_at hl 3 rfl) ?_
    refine lv_iload_n hx hb dX11_begins_94 rfl (lv_at hl 4 rfl) ?_
    refine lv_lload hx hb dX11_begins_95 (lv_at hl 2 rfl) ?_
    obtain ⟨o4, hco4, h⟩ := bd_of h
    refine kV (rest := [.ref (q 0)]) X dX11_begins_97 wd_6_216 mw_X11_quarters wd_6_218 wp_8_6 hP (k0 := 0) rfl rfl rfl hS (fun _ z => z) (c_X11_quarters hco4) rfl hl.1 rfl (Nat.le_of_ble_eq_true rfl) rfl rfl ⟨Nat.le_of_ble_eq_true rfl, Nat.le_of_ble_eq_true rfl⟩ (fun H locs hP _ _ hS => ?_)
    refine W.eq (g2 := F0 m 100 ls [.int o4, .ref (q 0)]) rfl ?_
    refine pf_X11_337_M_0 (v0 := o4) X hP hS dX11_begins_100 (fun H locs hP hS => ?_)
    refine lv_aload_n hx hb dX11_begins_103 rfl (lv_at hl 3 rfl) ?_
    refine lv_aload_n hx hb dX11_begins_104 rfl (lv_at hl 3 rfl) ?_
    refine gf_X11_186_M_0 X hP dX11_begins_105 ?_
    refine lv_aload_n hx hb dX11_begins_108 rfl (lv_at hl 3 rfl) ?_
    refine lv_iload_n hx hb dX11_begins_109 rfl (lv_at hl 4 rfl) ?_
    refine lv_iconst (v := 0) hx hb dX11_begins_110 rfl ?_
    obtain ⟨o5, hco5, h⟩ := bd_of h
    refine kV (rest := [.ref (q 9), .ref (q 0)]) X dX11_begins_111 wd_5_216 mw_X11_row wd_5_218 wp_7_9 hP (k0 := 0) rfl rfl rfl hS (fun _ z => z) (c_X11_row hco5) rfl hl.1 rfl (Nat.le_of_ble_eq_true rfl) rfl rfl ⟨Nat.le_of_ble_eq_true rfl, Nat.le_of_ble_eq_true rfl⟩ (fun H locs hP _ _ hS => ?_)
    refine W.eq (g2 := F0 m 114 ls [.int o5, .ref (q 9), .ref (q 0)]) rfl ?_
    obtain ⟨hi114, h⟩ := gv_of h
    refine al_M_9 X hP hi114 dX11_begins_114 ?_
    refine lv_i2l hx hb dX11_begins_115 rfl ?_
    refine lv_topl (fun v6 ev6 => ?_)
    have h := lt_at ev6 h
    refine pf_X11_344_M_0 (v0 := v6) X hP hS dX11_begins_116 (fun H locs hP hS => ?_)
    refine lv_aload_n hx hb dX11_begins_119 rfl (lv_at hl 3 rfl) ?_
    refine lv_lload hx hb dX11_begins_120 (lv_at hl 2 rfl) ?_
    refine lv_aload_n hx hb dX11_begins_122 rfl (lv_at hl 3 rfl) ?_
    refine gf_X11_337_M_0 X hP dX11_begins_123 ?_
    refine lv_i2l hx hb dX11_begins_126 rfl ?_
    refine lv_aload_n hx hb dX11_begins_127 rfl (lv_at hl 3 rfl) ?_
    refine gf_X11_199_M_0 X hP dX11_begins_128 ?_
    refine lv_iload_n hx hb dX11_begins_131 rfl (lv_at hl 4 rfl) ?_
    obtain ⟨hi132, h⟩ := gv_of h
    refine al_M_11 X hP hi132 dX11_begins_132 ?_
    refine lv_lmul hx hb dX11_begins_133 ?_
    refine lv_lsub hx hb dX11_begins_134 ?_
    refine lv_topl (fun v7 ev7 => ?_)
    have h := lt_at ev7 h
    refine pf_X11_331_M_0 (v0 := v7) X hP hS dX11_begins_135 (fun H locs hP hS => ?_)
    exact ret h hP hS dX11_begins_138
  have h := br_n c45_0 h
  by_cases c45_1 : p1 = 1
  · have h := br_p c45_1 h
    refine lv_tableIn (off := 94) (tgt := 139) hx hb dX11_begins_45 (by rw [c45_1]; decide) (by rw [c45_1]; decide) (by rw [c45_1]; rfl) rfl ?_
    refine lv_aload_n hx hb dX11_begins_139 rfl (lv_at hl 3 rfl) ?_
    refine lv_lload hx hb dX11_begins_140 (lv_at hl 2 rfl) ?_
    refine lv_lconst (v := 0) hx hb dX11_begins_142 rfl ?_
    refine jx1 h (P := fun (v8 : Int64) => ∀ ls : Array Slot, lv_has ls 14 [(0, .ref (q 0)), (1, .int p0), (9, .long v1), (11, .long v2)] → W p l e rm_X11_begins s m args below meth c H locs 0 0 Q (F0 m 155 ls [.long v8, .ref (q 0)])) ?_ ?_
    · intro v8 h ls hl
      refine pf_X11_344_M_0 (v0 := v8) X hP hS dX11_begins_155 (fun H locs hP hS => ?_)
      refine lv_aload_n hx hb dX11_begins_158 rfl (lv_at hl 0 rfl) ?_
      refine lv_lload hx hb dX11_begins_159 (lv_at hl 2 rfl) ?_
      refine lv_lconst (v := 0) hx hb dX11_begins_161 rfl ?_
      refine jx1 h (P := fun (v9 : Int64) => ∀ ls : Array Slot, lv_has ls 14 [(0, .ref (q 0)), (1, .int p0), (9, .long v1), (11, .long v2)] → W p l e rm_X11_begins s m args below meth c H locs 0 0 Q (F0 m 174 ls [.long v9, .ref (q 0)])) ?_ ?_
      · intro v9 h ls hl
        refine pf_X11_334_M_0 (v0 := v9) X hP hS dX11_begins_174 (fun H locs hP hS => ?_)
        refine lv_aload_n hx hb dX11_begins_177 rfl (lv_at hl 0 rfl) ?_
        refine lv_lload hx hb dX11_begins_178 (lv_at hl 2 rfl) ?_
        refine lv_lconst (v := 0) hx hb dX11_begins_180 rfl ?_
        refine rl_lt (tgt := 189) hx hb dX11_begins_181 dX11_begins_182 rfl (fun c181 => ?_) (fun c181 => ?_)
        · have h := br_p c181 h
          refine lv_lload hx hb dX11_begins_189 (lv_at hl 3 rfl) ?_
          refine lv_lconst (v := 0) hx hb dX11_begins_191 rfl ?_
          refine rl_lt (tgt := 209) hx hb dX11_begins_192 dX11_begins_193 rfl (fun c192 => ?_) (fun c192 => ?_)
          · have h := br_p c192 h
            refine lv_ldc2 (v := (-2)) hx hb X.2.2.2.1 (X.2.2.2.2.1 _ wd_6_221) dX11_begins_209 ?_
            refine lv_aload_n hx hb dX11_begins_212 rfl (lv_at hl 0 rfl) ?_
            refine gf_X11_199_M_0 X hP dX11_begins_213 ?_
            refine lv_iload_n hx hb dX11_begins_216 rfl (lv_at hl 1 rfl) ?_
            obtain ⟨hi217, h⟩ := gv_of h
            refine al_M_11 X hP hi217 dX11_begins_217 ?_
            refine lv_lmul hx hb dX11_begins_218 ?_
            exact b219   ((-2 : Int64) * (m_quarter (p0).toNatClampNeg)) v8 v9 (0 : Int64) m_first m_second (0 : Int32) _ _ _ h hP hS (lv_sub hl [] rfl)
          · have h := br_n c192 h
            refine lv_ldc2 (v := 2) hx hb X.2.2.2.1 (X.2.2.2.2.1 _ wd_5_201) dX11_begins_196 ?_
            refine lv_aload_n hx hb dX11_begins_199 rfl (lv_at hl 0 rfl) ?_
            refine gf_X11_199_M_0 X hP dX11_begins_200 ?_
            refine lv_iload_n hx hb dX11_begins_203 rfl (lv_at hl 1 rfl) ?_
            obtain ⟨hi204, h⟩ := gv_of h
            refine al_M_11 X hP hi204 dX11_begins_204 ?_
            refine lv_lmul hx hb dX11_begins_205 ?_
            refine lv_goto (tgt := 219) hx hb dX11_begins_206 rfl ?_
            exact b219   ((2 : Int64) * (m_quarter (p0).toNatClampNeg)) v8 v9 (0 : Int64) m_first m_second (0 : Int32) _ _ _ h hP hS (lv_sub hl [] rfl)
        · have h := br_n c181 h
          refine lv_lconst (v := 0) hx hb dX11_begins_185 rfl ?_
          refine lv_goto (tgt := 219) hx hb dX11_begins_186 rfl ?_
          exact b219   (0 : Int64) v8 v9 (0 : Int64) m_first m_second (0 : Int32) _ _ _ h hP hS (lv_sub hl [] rfl)
      · intro J h
        refine rl_ge (tgt := 172) hx hb dX11_begins_162 dX11_begins_163 rfl (fun c162 => ?_) (fun c162 => ?_)
        · refine lv_lload hx hb dX11_begins_172 (lv_at hl 3 rfl) ?_
          exact J _ (lt_ip c162 h) ls (lv_sub hl [0, 1, 2, 3] rfl)
        · refine lv_lload hx hb dX11_begins_166 (lv_at hl 3 rfl) ?_
          refine lv_lneg hx hb dX11_begins_168 ?_
          refine lv_goto (tgt := 174) hx hb dX11_begins_169 rfl ?_
          exact J _ (lt_in c162 h) ls (lv_sub hl [0, 1, 2, 3] rfl)
    · intro J h
      refine rl_ge (tgt := 153) hx hb dX11_begins_143 dX11_begins_144 rfl (fun c143 => ?_) (fun c143 => ?_)
      · refine lv_lload hx hb dX11_begins_153 (lv_at hl 2 rfl) ?_
        exact J _ (lt_ip c143 h) ls (lv_sub hl [3, 4, 2, 1] rfl)
      · refine lv_lload hx hb dX11_begins_147 (lv_at hl 2 rfl) ?_
        refine lv_lneg hx hb dX11_begins_149 ?_
        refine lv_goto (tgt := 155) hx hb dX11_begins_150 rfl ?_
        exact J _ (lt_in c143 h) ls (lv_sub hl [3, 4, 2, 1] rfl)
  have h := br_n c45_1 h
  by_cases c45_2 : p1 = 2
  · have h := br_p c45_2 h
    refine lv_tableIn (off := 178) (tgt := 223) hx hb dX11_begins_45 (by rw [c45_2]; decide) (by rw [c45_2]; decide) (by rw [c45_2]; rfl) rfl ?_
    exact l223  FU p0 v1 v2 v3 m_x (0 : Int64) (0 : Int64) m_first m_second (0 : Int32) _ _ _ h hP hS (lv_sub hl [3, 4, 2, 1, 0] rfl)
  have h := br_n c45_2 h
  by_cases c45_3 : p1 = 3
  · have h := br_p c45_3 h
    refine lv_tableIn (off := 231) (tgt := 276) hx hb dX11_begins_45 (by rw [c45_3]; decide) (by rw [c45_3]; decide) (by rw [c45_3]; rfl) rfl ?_
    refine lv_aload_n hx hb dX11_begins_276 rfl (lv_at hl 3 rfl) ?_
    refine lv_lload hx hb dX11_begins_277 (lv_at hl 1 rfl) ?_
    refine lv_lconst (v := 0) hx hb dX11_begins_279 rfl ?_
    refine jx1 h (P := fun (v13 : Int64) => ∀ ls : Array Slot, lv_has ls 14 [(0, .ref (q 0)), (11, .long v2)] → W p l e rm_X11_begins s m args below meth c H locs 0 0 Q (F0 m 292 ls [.long v13, .ref (q 0)])) ?_ ?_
    · intro v13 h ls hl
      refine pf_X11_334_M_0 (v0 := v13) X hP hS dX11_begins_292 (fun H locs hP hS => ?_)
      refine lv_aload_n hx hb dX11_begins_295 rfl (lv_at hl 0 rfl) ?_
      refine lv_lload hx hb dX11_begins_296 (lv_at hl 1 rfl) ?_
      obtain ⟨o14, hco14, h⟩ := bd_of h
      refine kS (rest := [.ref (q 0)]) X dX11_begins_298 wd_6_211 mw_J9_abs_067f4 wd_3_171 hP hS (fun _ z => z) (c_J9_abs_067f4 hco14) rfl hl.1 rfl (Nat.le_of_ble_eq_true rfl) rfl rfl ⟨Nat.le_of_ble_eq_true rfl, Nat.le_of_ble_eq_true rfl⟩ (fun H locs hP _ _ hS => ?_)
      refine W.eq (g2 := F0 m 301 ls [.long o14, .ref (q 0)]) rfl ?_
      refine pf_X11_344_M_0 (v0 := o14) X hP hS dX11_begins_301 (fun H locs hP hS => ?_)
      exact l304  FU o14 v13 (0 : Int64) m_first m_second (0 : Int32) _ _ _ h hP hS (lv_sub hl [0] rfl)
    · intro J h
      refine rl_ge (tgt := 290) hx hb dX11_begins_280 dX11_begins_281 rfl (fun c280 => ?_) (fun c280 => ?_)
      · refine lv_lload hx hb dX11_begins_290 (lv_at hl 2 rfl) ?_
        exact J _ (lt_ip c280 h) ls (lv_sub hl [3, 1] rfl)
      · refine lv_lload hx hb dX11_begins_284 (lv_at hl 2 rfl) ?_
        refine lv_lneg hx hb dX11_begins_286 ?_
        refine lv_goto (tgt := 292) hx hb dX11_begins_287 rfl ?_
        exact J _ (lt_in c280 h) ls (lv_sub hl [3, 1] rfl)
  have h := br_n c45_3 h
  by_cases c45_4 : p1 = 4
  · have h := br_p c45_4 h
    refine lv_tableIn (off := 306) (tgt := 351) hx hb dX11_begins_45 (by rw [c45_4]; decide) (by rw [c45_4]; decide) (by rw [c45_4]; rfl) rfl ?_
    refine lv_aload_n hx hb dX11_begins_351 rfl (lv_at hl 3 rfl) ?_
    refine lv_aload_n hx hb dX11_begins_352 rfl (lv_at hl 3 rfl) ?_
    refine gf_X11_186_M_0 X hP dX11_begins_353 ?_
    refine lv_aload_n hx hb dX11_begins_356 rfl (lv_at hl 3 rfl) ?_
    refine lv_iload_n hx hb dX11_begins_357 rfl (lv_at hl 4 rfl) ?_
    refine lv_iconst (v := 2) hx hb dX11_begins_358 rfl ?_
    obtain ⟨o18, hco18, h⟩ := bd_of h
    refine kV (rest := [.ref (q 9), .ref (q 0)]) X dX11_begins_359 wd_5_216 mw_X11_row wd_5_218 wp_7_9 hP (k0 := 0) rfl rfl rfl hS (fun _ z => z) (c_X11_row hco18) rfl hl.1 rfl (Nat.le_of_ble_eq_true rfl) rfl rfl ⟨Nat.le_of_ble_eq_true rfl, Nat.le_of_ble_eq_true rfl⟩ (fun H locs hP _ _ hS => ?_)
    refine W.eq (g2 := F0 m 362 ls [.int o18, .ref (q 9), .ref (q 0)]) rfl ?_
    obtain ⟨hi362, h⟩ := gv_of h
    refine al_M_9 X hP hi362 dX11_begins_362 ?_
    refine lv_i2l hx hb dX11_begins_363 rfl ?_
    refine lv_topl (fun v19 ev19 => ?_)
    have h := lt_at ev19 h
    refine pf_X11_344_M_0 (v0 := v19) X hP hS dX11_begins_364 (fun H locs hP hS => ?_)
    refine lv_aload_n hx hb dX11_begins_367 rfl (lv_at hl 3 rfl) ?_
    refine lv_lload hx hb dX11_begins_368 (lv_at hl 2 rfl) ?_
    refine pf_X11_331_M_0 (v0 := v1) X hP hS dX11_begins_370 (fun H locs hP hS => ?_)
    exact ret h hP hS dX11_begins_373
  have h := br_n c45_4 h
  by_cases c45_5 : p1 = 5
  · have h := br_p c45_5 h
    refine lv_tableIn (off := 329) (tgt := 374) hx hb dX11_begins_45 (by rw [c45_5]; decide) (by rw [c45_5]; decide) (by rw [c45_5]; rfl) rfl ?_
    refine lv_aload_n hx hb dX11_begins_374 rfl (lv_at hl 3 rfl) ?_
    refine lv_ldc2 (v := 2) hx hb X.2.2.2.1 (X.2.2.2.2.1 _ wd_5_201) dX11_begins_375 ?_
    refine lv_lload hx hb dX11_begins_378 (lv_at hl 2 rfl) ?_
    refine lv_lmul hx hb dX11_begins_380 ?_
    refine lv_aload_n hx hb dX11_begins_381 rfl (lv_at hl 3 rfl) ?_
    refine gf_X11_203_M_0 X hP dX11_begins_382 ?_
    refine lv_iload_n hx hb dX11_begins_385 rfl (lv_at hl 4 rfl) ?_
    obtain ⟨hi386, h⟩ := gv_of h
    refine al_M_12 X hP hi386 dX11_begins_386 ?_
    refine lv_ladd hx hb dX11_begins_387 ?_
    refine lv_ldc2 (v := 2) hx hb X.2.2.2.1 (X.2.2.2.2.1 _ wd_5_201) dX11_begins_388 ?_
    refine lv_aload_n hx hb dX11_begins_391 rfl (lv_at hl 3 rfl) ?_
    refine gf_X11_203_M_0 X hP dX11_begins_392 ?_
    refine lv_iload_n hx hb dX11_begins_395 rfl (lv_at hl 4 rfl) ?_
    obtain ⟨hi396, h⟩ := gv_of h
    refine al_M_12 X hP hi396 dX11_begins_396 ?_
    refine lv_lmul hx hb dX11_begins_397 ?_
    obtain ⟨o20, hco20, h⟩ := bd_of h
    refine kS (rest := [.ref (q 0)]) X dX11_begins_398 wd_6_220 mw_J9_floorDiv_f86c9 wd_3_186 hP hS (fun _ z => z) (c_J9_floorDiv_f86c9 hco20) rfl hl.1 rfl (Nat.le_of_ble_eq_true rfl) rfl rfl ⟨Nat.le_of_ble_eq_true rfl, Nat.le_of_ble_eq_true rfl⟩ (fun H locs hP _ _ hS => ?_)
    refine W.eq (g2 := F0 m 401 ls [.long o20, .ref (q 0)]) rfl ?_
    refine lv_l2i hx hb dX11_begins_401 rfl ?_
    refine pf_X11_337_M_0 (v0 := o20.toInt32) X hP hS dX11_begins_402 (fun H locs hP hS => ?_)
    refine lv_aload_n hx hb dX11_begins_405 rfl (lv_at hl 3 rfl) ?_
    refine lv_aload_n hx hb dX11_begins_406 rfl (lv_at hl 3 rfl) ?_
    refine gf_X11_186_M_0 X hP dX11_begins_407 ?_
    refine lv_aload_n hx hb dX11_begins_410 rfl (lv_at hl 3 rfl) ?_
    refine lv_iload_n hx hb dX11_begins_411 rfl (lv_at hl 4 rfl) ?_
    refine lv_iconst (v := 2) hx hb dX11_begins_412 rfl ?_
    obtain ⟨o21, hco21, h⟩ := bd_of h
    refine kV (rest := [.ref (q 9), .ref (q 0)]) X dX11_begins_413 wd_5_216 mw_X11_row wd_5_218 wp_7_9 hP (k0 := 0) rfl rfl rfl hS (fun _ z => z) (c_X11_row hco21) rfl hl.1 rfl (Nat.le_of_ble_eq_true rfl) rfl rfl ⟨Nat.le_of_ble_eq_true rfl, Nat.le_of_ble_eq_true rfl⟩ (fun H locs hP _ _ hS => ?_)
    refine W.eq (g2 := F0 m 416 ls [.int o21, .ref (q 9), .ref (q 0)]) rfl ?_
    obtain ⟨hi416, h⟩ := gv_of h
    refine al_M_9 X hP hi416 dX11_begins_416 ?_
    refine lv_i2l hx hb dX11_begins_417 rfl ?_
    refine lv_topl (fun v22 ev22 => ?_)
    have h := lt_at ev22 h
    refine pf_X11_344_M_0 (v0 := v22) X hP hS dX11_begins_418 (fun H locs hP hS => ?_)
    refine lv_aload_n hx hb dX11_begins_421 rfl (lv_at hl 3 rfl) ?_
    refine lv_lload hx hb dX11_begins_422 (lv_at hl 2 rfl) ?_
    refine lv_aload_n hx hb dX11_begins_424 rfl (lv_at hl 3 rfl) ?_
    refine gf_X11_337_M_0 X hP dX11_begins_425 ?_
    refine lv_i2l hx hb dX11_begins_428 rfl ?_
    refine lv_aload_n hx hb dX11_begins_429 rfl (lv_at hl 3 rfl) ?_
    refine gf_X11_203_M_0 X hP dX11_begins_430 ?_
    refine lv_iload_n hx hb dX11_begins_433 rfl (lv_at hl 4 rfl) ?_
    obtain ⟨hi434, h⟩ := gv_of h
    refine al_M_12 X hP hi434 dX11_begins_434 ?_
    refine lv_lmul hx hb dX11_begins_435 ?_
    refine lv_lsub hx hb dX11_begins_436 ?_
    refine lv_topl (fun v23 ev23 => ?_)
    have h := lt_at ev23 h
    refine pf_X11_331_M_0 (v0 := v23) X hP hS dX11_begins_437 (fun H locs hP hS => ?_)
    exact ret h hP hS dX11_begins_440
  have h := br_n c45_5 h
  by_cases c45_6 : p1 = 6
  · have h := br_p c45_6 h
    refine lv_tableIn (off := 396) (tgt := 441) hx hb dX11_begins_45 (by rw [c45_6]; decide) (by rw [c45_6]; decide) (by rw [c45_6]; rfl) rfl ?_
    refine lv_aload_n hx hb dX11_begins_441 rfl (lv_at hl 3 rfl) ?_
    refine lv_lload hx hb dX11_begins_442 (lv_at hl 2 rfl) ?_
    obtain ⟨o24, hco24, h⟩ := bd_of h
    refine kS (rest := [.ref (q 0)]) X dX11_begins_444 wd_6_222 mw_X11_bitsOf wd_6_223 hP hS (fun _ z => z) (c_X11_bitsOf hco24) rfl hl.1 rfl (Nat.le_of_ble_eq_true rfl) rfl rfl ⟨Nat.le_of_ble_eq_true rfl, Nat.le_of_ble_eq_true rfl⟩ (fun H locs hP _ _ hS => ?_)
    refine W.eq (g2 := F0 m 447 ls [.int o24, .ref (q 0)]) rfl ?_
    refine lv_iload hx hb dX11_begins_447 (lv_at hl 0 rfl) ?_
    refine lv_isub hx hb dX11_begins_449 ?_
    refine lv_topi (fun v25 ev25 => ?_)
    have h := lt_at ev25 h
    refine pf_X11_337_M_0 (v0 := v25) X hP hS dX11_begins_450 (fun H locs hP hS => ?_)
    refine lv_aload_n hx hb dX11_begins_453 rfl (lv_at hl 3 rfl) ?_
    refine lv_aload_n hx hb dX11_begins_454 rfl (lv_at hl 3 rfl) ?_
    refine lv_iload_n hx hb dX11_begins_455 rfl (lv_at hl 4 rfl) ?_
    refine lv_lload hx hb dX11_begins_456 (lv_at hl 2 rfl) ?_
    refine lv_aload_n hx hb dX11_begins_458 rfl (lv_at hl 3 rfl) ?_
    refine gf_X11_337_M_0 X hP dX11_begins_459 ?_
    obtain ⟨o26, hco26, h⟩ := bd_of h
    refine kV (rest := [.ref (q 0)]) X dX11_begins_462 wd_6_225 mw_X11_moved wd_6_227 wp_8_7 hP (k0 := 0) rfl rfl rfl hS (fun _ z => z) (c_X11_moved hco26) rfl hl.1 rfl (Nat.le_of_ble_eq_true rfl) rfl rfl ⟨Nat.le_of_ble_eq_true rfl, Nat.le_of_ble_eq_true rfl⟩ (fun H locs hP _ _ hS => ?_)
    refine W.eq (g2 := F0 m 465 ls [.long o26, .ref (q 0)]) rfl ?_
    refine lv_lconst (v := 1) hx hb dX11_begins_465 rfl ?_
    refine lv_iload hx hb dX11_begins_466 (lv_at hl 0 rfl) ?_
    refine lv_lshl hx hb dX11_begins_468 rfl ?_
    refine lv_ladd hx hb dX11_begins_469 ?_
    refine lv_topl (fun v27 ev27 => ?_)
    have h := lt_at ev27 h
    refine pf_X11_344_M_0 (v0 := v27) X hP hS dX11_begins_470 (fun H locs hP hS => ?_)
    refine lv_aload_n hx hb dX11_begins_473 rfl (lv_at hl 3 rfl) ?_
    refine lv_aload_n hx hb dX11_begins_474 rfl (lv_at hl 3 rfl) ?_
    refine lv_iload_n hx hb dX11_begins_475 rfl (lv_at hl 4 rfl) ?_
    refine lv_lload hx hb dX11_begins_476 (lv_at hl 2 rfl) ?_
    refine lv_aload_n hx hb dX11_begins_478 rfl (lv_at hl 3 rfl) ?_
    refine gf_X11_337_M_0 X hP dX11_begins_479 ?_
    obtain ⟨o28, hco28, h⟩ := bd_of h
    refine kV (rest := [.ref (q 0)]) X dX11_begins_482 wd_6_225 mw_X11_moved wd_6_227 wp_8_7 hP (k0 := 0) rfl rfl rfl hS (fun _ z => z) (c_X11_moved hco28) rfl hl.1 rfl (Nat.le_of_ble_eq_true rfl) rfl rfl ⟨Nat.le_of_ble_eq_true rfl, Nat.le_of_ble_eq_true rfl⟩ (fun H locs hP _ _ hS => ?_)
    refine W.eq (g2 := F0 m 485 ls [.long o28, .ref (q 0)]) rfl ?_
    refine lv_lconst (v := 1) hx hb dX11_begins_485 rfl ?_
    refine lv_iload hx hb dX11_begins_486 (lv_at hl 0 rfl) ?_
    refine lv_lshl hx hb dX11_begins_488 rfl ?_
    refine lv_lsub hx hb dX11_begins_489 ?_
    refine lv_topl (fun v29 ev29 => ?_)
    have h := lt_at ev29 h
    refine pf_X11_334_M_0 (v0 := v29) X hP hS dX11_begins_490 (fun H locs hP hS => ?_)
    exact ret h hP hS dX11_begins_493
  have h := br_n c45_6 h
  by_cases c45_7 : p1 = 7
  · have h := br_p c45_7 h
    refine lv_tableIn (off := 449) (tgt := 494) hx hb dX11_begins_45 (by rw [c45_7]; decide) (by rw [c45_7]; decide) (by rw [c45_7]; rfl) rfl ?_
    refine lv_aload_n hx hb dX11_begins_494 rfl (lv_at hl 3 rfl) ?_
    refine lv_lload hx hb dX11_begins_495 (lv_at hl 2 rfl) ?_
    obtain ⟨o30, hco30, h⟩ := bd_of h
    refine kS (rest := [.ref (q 0)]) X dX11_begins_497 wd_6_222 mw_X11_bitsOf wd_6_223 hP hS (fun _ z => z) (c_X11_bitsOf hco30) rfl hl.1 rfl (Nat.le_of_ble_eq_true rfl) rfl rfl ⟨Nat.le_of_ble_eq_true rfl, Nat.le_of_ble_eq_true rfl⟩ (fun H locs hP _ _ hS => ?_)
    refine W.eq (g2 := F0 m 500 ls [.int o30, .ref (q 0)]) rfl ?_
    refine lv_iload hx hb dX11_begins_500 (lv_at hl 0 rfl) ?_
    refine lv_isub hx hb dX11_begins_502 ?_
    refine lv_iconst (v := 1) hx hb dX11_begins_503 rfl ?_
    refine lv_iadd hx hb dX11_begins_504 ?_
    refine lv_iconst (v := 2) hx hb dX11_begins_505 rfl ?_
    obtain ⟨o31, hco31, h⟩ := bd_of h
    refine kS (rest := [.ref (q 0)]) X dX11_begins_506 wd_6_229 mw_J9_floorDiv_7cf53 wd_6_230 hP hS (fun _ z => z) (c_J9_floorDiv_7cf53 hco31) rfl hl.1 rfl (Nat.le_of_ble_eq_true rfl) rfl rfl ⟨Nat.le_of_ble_eq_true rfl, Nat.le_of_ble_eq_true rfl⟩ (fun H locs hP _ _ hS => ?_)
    refine W.eq (g2 := F0 m 509 ls [.int o31, .ref (q 0)]) rfl ?_
    refine pf_X11_337_M_0 (v0 := o31) X hP hS dX11_begins_509 (fun H locs hP hS => ?_)
    refine lv_aload_n hx hb dX11_begins_512 rfl (lv_at hl 3 rfl) ?_
    refine lv_aload_n hx hb dX11_begins_513 rfl (lv_at hl 3 rfl) ?_
    refine lv_iload_n hx hb dX11_begins_514 rfl (lv_at hl 4 rfl) ?_
    refine lv_lload hx hb dX11_begins_515 (lv_at hl 2 rfl) ?_
    refine lv_iconst (v := 2) hx hb dX11_begins_517 rfl ?_
    refine lv_aload_n hx hb dX11_begins_518 rfl (lv_at hl 3 rfl) ?_
    refine gf_X11_337_M_0 X hP dX11_begins_519 ?_
    refine lv_imul hx hb dX11_begins_522 ?_
    obtain ⟨o32, hco32, h⟩ := bd_of h
    refine kV (rest := [.ref (q 0)]) X dX11_begins_523 wd_6_225 mw_X11_moved wd_6_227 wp_8_7 hP (k0 := 0) rfl rfl rfl hS (fun _ z => z) (c_X11_moved hco32) rfl hl.1 rfl (Nat.le_of_ble_eq_true rfl) rfl rfl ⟨Nat.le_of_ble_eq_true rfl, Nat.le_of_ble_eq_true rfl⟩ (fun H locs hP _ _ hS => ?_)
    refine W.eq (g2 := F0 m 526 ls [.long o32, .ref (q 0)]) rfl ?_
    refine lv_lconst (v := 1) hx hb dX11_begins_526 rfl ?_
    refine lv_iload hx hb dX11_begins_527 (lv_at hl 0 rfl) ?_
    refine lv_iconst (v := 2) hx hb dX11_begins_529 rfl ?_
    refine lv_isub hx hb dX11_begins_530 ?_
    refine lv_lshl hx hb dX11_begins_531 rfl ?_
    refine lv_ladd hx hb dX11_begins_532 ?_
    refine lv_topl (fun v33 ev33 => ?_)
    have h := lt_at ev33 h
    refine pf_X11_344_M_0 (v0 := v33) X hP hS dX11_begins_533 (fun H locs hP hS => ?_)
    refine lv_aload_n hx hb dX11_begins_536 rfl (lv_at hl 3 rfl) ?_
    refine lv_aload_n hx hb dX11_begins_537 rfl (lv_at hl 3 rfl) ?_
    refine lv_iload_n hx hb dX11_begins_538 rfl (lv_at hl 4 rfl) ?_
    refine lv_lload hx hb dX11_begins_539 (lv_at hl 2 rfl) ?_
    refine lv_iconst (v := 2) hx hb dX11_begins_541 rfl ?_
    refine lv_aload_n hx hb dX11_begins_542 rfl (lv_at hl 3 rfl) ?_
    refine gf_X11_337_M_0 X hP dX11_begins_543 ?_
    refine lv_imul hx hb dX11_begins_546 ?_
    obtain ⟨o34, hco34, h⟩ := bd_of h
    refine kV (rest := [.ref (q 0)]) X dX11_begins_547 wd_6_225 mw_X11_moved wd_6_227 wp_8_7 hP (k0 := 0) rfl rfl rfl hS (fun _ z => z) (c_X11_moved hco34) rfl hl.1 rfl (Nat.le_of_ble_eq_true rfl) rfl rfl ⟨Nat.le_of_ble_eq_true rfl, Nat.le_of_ble_eq_true rfl⟩ (fun H locs hP _ _ hS => ?_)
    refine W.eq (g2 := F0 m 550 ls [.long o34, .ref (q 0)]) rfl ?_
    refine lv_lconst (v := 1) hx hb dX11_begins_550 rfl ?_
    refine lv_iload hx hb dX11_begins_551 (lv_at hl 0 rfl) ?_
    refine lv_iconst (v := 2) hx hb dX11_begins_553 rfl ?_
    refine lv_isub hx hb dX11_begins_554 ?_
    refine lv_lshl hx hb dX11_begins_555 rfl ?_
    refine lv_lsub hx hb dX11_begins_556 ?_
    refine lv_topl (fun v35 ev35 => ?_)
    have h := lt_at ev35 h
    refine pf_X11_334_M_0 (v0 := v35) X hP hS dX11_begins_557 (fun H locs hP hS => ?_)
    exact ret h hP hS dX11_begins_560
  have h := br_n c45_7 h
  refine lv_tableOut (tgt := 561) hx hb dX11_begins_45 (by have := lv_neT (a := 0) c45_0 rfl; have := lv_neT (a := 1) c45_1 rfl; have := lv_neT (a := 2) c45_2 rfl; have := lv_neT (a := 3) c45_3 rfl; have := lv_neT (a := 4) c45_4 rfl; have := lv_neT (a := 5) c45_5 rfl; have := lv_neT (a := 6) c45_6 rfl; have := lv_neT (a := 7) c45_7 rfl; omega) rfl ?_
  refine lv_aload_n hx hb dX11_begins_561 rfl (lv_at hl 3 rfl) ?_
  refine lv_aload_n hx hb dX11_begins_562 rfl (lv_at hl 3 rfl) ?_
  refine lv_iload_n hx hb dX11_begins_563 rfl (lv_at hl 4 rfl) ?_
  refine lv_lload hx hb dX11_begins_564 (lv_at hl 8 rfl) ?_
  refine lv_aload_n hx hb dX11_begins_566 rfl (lv_at hl 3 rfl) ?_
  refine gf_X11_194_M_0 X hP dX11_begins_567 ?_
  refine lv_iload_n hx hb dX11_begins_570 rfl (lv_at hl 4 rfl) ?_
  obtain ⟨hi571, h⟩ := gv_of h
  refine al_M_5 X hP hi571 dX11_begins_571 ?_
  refine lv_lshl hx hb dX11_begins_572 rfl ?_
  obtain ⟨o36, hco36, h⟩ := bd_of h
  refine kV (rest := [.ref (q 0)]) X dX11_begins_573 wd_6_216 mw_X11_quarters wd_6_218 wp_8_6 hP (k0 := 0) rfl rfl rfl hS (fun _ z => z) (c_X11_quarters hco36) rfl hl.1 rfl (Nat.le_of_ble_eq_true rfl) rfl rfl ⟨Nat.le_of_ble_eq_true rfl, Nat.le_of_ble_eq_true rfl⟩ (fun H locs hP _ _ hS => ?_)
  refine W.eq (g2 := F0 m 576 ls [.int o36, .ref (q 0)]) rfl ?_
  refine pf_X11_337_M_0 (v0 := o36) X hP hS dX11_begins_576 (fun H locs hP hS => ?_)
  refine lv_aload_n hx hb dX11_begins_579 rfl (lv_at hl 3 rfl) ?_
  refine lv_aload_n hx hb dX11_begins_580 rfl (lv_at hl 3 rfl) ?_
  refine gf_X11_337_M_0 X hP dX11_begins_581 ?_
  refine lv_lload hx hb dX11_begins_584 (lv_at hl 2 rfl) ?_
  refine lv_lload hx hb dX11_begins_586 (lv_at hl 1 rfl) ?_
  obtain ⟨o37, hco37, h⟩ := bd_of h
  refine kV (rest := []) X dX11_begins_588 wd_6_232 mw_X11_turns wd_6_234 wp_8_8 hP (k0 := 0) rfl rfl rfl hS (fun _ z => z) (c_X11_turns hco37) rfl hl.1 rfl (Nat.le_of_ble_eq_true rfl) rfl rfl ⟨Nat.le_of_ble_eq_true rfl, Nat.le_of_ble_eq_true rfl⟩ (fun H locs hP _ _ hS => ?_)
  refine W.eq (g2 := F0 m 591 ls []) rfl ?_
  refine lv_aload_n hx hb dX11_begins_591 rfl (lv_at hl 3 rfl) ?_
  refine lv_aload_n hx hb dX11_begins_592 rfl (lv_at hl 3 rfl) ?_
  refine gf_X11_324_M_0 X hP dX11_begins_593 ?_
  refine pf_X11_344_M_0 (v0 := o37.1) X hP hS dX11_begins_596 (fun H locs hP hS => ?_)
  refine lv_aload_n hx hb dX11_begins_599 rfl (lv_at hl 3 rfl) ?_
  refine lv_aload_n hx hb dX11_begins_600 rfl (lv_at hl 3 rfl) ?_
  refine gf_X11_328_M_0 X hP dX11_begins_601 ?_
  refine pf_X11_334_M_0 (v0 := o37.2) X hP hS dX11_begins_604 (fun H locs hP hS => ?_)
  refine lv_aload_n hx hb dX11_begins_607 rfl (lv_at hl 3 rfl) ?_
  refine lv_lload hx hb dX11_begins_608 (lv_at hl 8 rfl) ?_
  refine lv_aload_n hx hb dX11_begins_610 rfl (lv_at hl 3 rfl) ?_
  refine gf_X11_194_M_0 X hP dX11_begins_611 ?_
  refine lv_iload_n hx hb dX11_begins_614 rfl (lv_at hl 4 rfl) ?_
  obtain ⟨hi615, h⟩ := gv_of h
  refine al_M_5 X hP hi615 dX11_begins_615 ?_
  refine lv_lshl hx hb dX11_begins_616 rfl ?_
  refine lv_aload_n hx hb dX11_begins_617 rfl (lv_at hl 3 rfl) ?_
  refine gf_X11_337_M_0 X hP dX11_begins_618 ?_
  refine lv_i2l hx hb dX11_begins_621 rfl ?_
  refine lv_aload_n hx hb dX11_begins_622 rfl (lv_at hl 3 rfl) ?_
  refine gf_X11_199_M_0 X hP dX11_begins_623 ?_
  refine lv_iload_n hx hb dX11_begins_626 rfl (lv_at hl 4 rfl) ?_
  obtain ⟨hi627, h⟩ := gv_of h
  refine al_M_11 X hP hi627 dX11_begins_627 ?_
  refine lv_lmul hx hb dX11_begins_628 ?_
  refine lv_lsub hx hb dX11_begins_629 ?_
  refine lv_topl (fun v38 ev38 => ?_)
  have h := lt_at ev38 h
  refine pf_X11_331_M_0 (v0 := v38) X hP hS dX11_begins_630 (fun H locs hP hS => ?_)
  exact ret h hP hS dX11_begins_633
abbrev rm_X11_steps : Room := { frames := 1, cells := 0, slots := 0, locals := 24 }
set_option maxRecDepth 100000 in
set_option maxHeartbeats 4000000 in
theorem c_X11_steps {g : gT} {l : Launch} {A : Nat → Prop} {q : Nat → Nat} {m_thrown : Int32} {m_length : Int32} {m_at : Int32} {m_fault : Int32} {m_toldWords : Int32} {m_orders : Int32} {m_value : Int32} {m_hasUnit : Bool} {m_places : Int32} {m_clocks : Int32} {m_held : Bool} {m_x : Int64} {m_y : Int64} {m_z : Int64} {m_first : Int64} {m_second : Int64} {m_aside : Int32} {m_jobs : Int32} {m_jobsImage : Int32} {m_clocksImage : Int32} {m_heldImage : Bool} {m_hasImage : Bool} {m_tape : Nat → Int32} {m_read : Nat → Int32} {m_order : Nat → Int32} {m_width : Nat → Int32} {m_guard : Nat → Int32} {m_points : Nat → Int32} {m_stages : Nat → Int32} {m_gain : Nat → Int32} {m_undo : Nat → Int32} {m_near : Nat → Bool} {m_quarter : Nat → Int64} {m_ln : Nat → Int64} {m_angle : Nat → Int64} {m_shift : Nat → Int32} {m_digit : Nat → Int32} {m_refused : Nat → Int32} {m_job : Nat → Int32} {m_jobKept : Nat → Int32} {m_result : Nat → Int32} {m_resultKept : Nat → Int32} {m_trace : Nat → Int64} {m_traceKept : Nat → Int64} {m_jobImage : Nat → Int32} {m_resultImage : Nat → Int32} {m_traceImage : Nat → Int64} {p0 : Int32} {p1 : Int32} {p2 : Int32} {o : Bool × Int64 × Int64 × Int64} (h : f_X11_steps p0 p1 p2 m_x m_y m_z m_near m_angle m_shift = some o) : Std g l yX11_steps (.code yX11_steps cX11_steps 13 (some .boolean) :: gw) rm_X11_steps A [.ref (q 0), .int p0, .int p1, .int p2] (wM g q m_thrown m_length m_at m_fault m_toldWords m_orders m_value m_hasUnit m_places m_clocks m_held m_x m_y m_z m_first m_second m_aside m_jobs m_jobsImage m_clocksImage m_heldImage m_hasImage m_tape m_read m_order m_width m_guard m_points m_stages m_gain m_undo m_near m_quarter m_ln m_angle m_shift m_digit m_refused m_job m_jobKept m_result m_resultKept m_trace m_traceKept m_jobImage m_resultImage m_traceImage) (wM g q m_thrown m_length m_at m_fault m_toldWords m_orders m_value m_hasUnit m_places m_clocks m_held o.2.1 o.2.2.1 o.2.2.2 m_first m_second m_aside m_jobs m_jobsImage m_clocksImage m_heldImage m_hasImage m_tape m_read m_order m_width m_guard m_points m_stages m_gain m_undo m_near m_quarter m_ln m_angle m_shift m_digit m_refused m_job m_jobKept m_result m_resultKept m_trace m_traceKept m_jobImage m_resultImage m_traceImage) (some (.int (bI o.1))) := by
  refine std_z (own := RX11) (by decide +kernel) rfl (Nat.le_of_ble_eq_true rfl) ?_
  intro p e s m args below meth c Q X ret H locs hP hS ls hl
  have hx := X.1
  have hb := X.2.1
  have hl : lv_has ls 13 [(0, .ref (q 0)), (1, .int p0), (2, .int p1), (3, .int p2)] := hl
  have ret : ∀ {H : Heap} {locs : List Loc} {pc : Nat} {ls : Array Slot} {v : Bool} {m_x : Int64} {m_y : Int64} {m_z : Int64}, some (v, m_x, m_y, m_z) = some o → WP g A (wM g q m_thrown m_length m_at m_fault m_toldWords m_orders m_value m_hasUnit m_places m_clocks m_held m_x m_y m_z m_first m_second m_aside m_jobs m_jobsImage m_clocksImage m_heldImage m_hasImage m_tape m_read m_order m_width m_guard m_points m_stages m_gain m_undo m_near m_quarter m_ln m_angle m_shift m_digit m_refused m_job m_jobKept m_result m_resultKept m_trace m_traceKept m_jobImage m_resultImage m_traceImage) H → va_S A s.heap H locs → decode cX11_steps pc = .ok (.ireturn, 1) → W p l e rm_X11_steps s m args below meth c H locs 0 0 Q (F0 m pc ls [.int (bI v)]) := by
    intro H locs pc ls v m_x m_y m_z h hP hS hd
    cases h
    exact ret hP hS hd
  have b96 : ∀ (x1 : Int32) (x3 : Int32) (x4 : Int32) (x5 : Int32) (x6 : Bool) (x7 : Int64) (t0 : Int64) (m_x : Int64) (m_y : Int64) (m_z : Int64) (H : Heap) (locs : List Loc) (ls : Array Slot), f_X11_steps_b96  m_near m_angle m_shift  x1 x3 x4 x5 x6 x7 t0 m_x m_y m_z = some o → WP g A (wM g q m_thrown m_length m_at m_fault m_toldWords m_orders m_value m_hasUnit m_places m_clocks m_held m_x m_y m_z m_first m_second m_aside m_jobs m_jobsImage m_clocksImage m_heldImage m_hasImage m_tape m_read m_order m_width m_guard m_points m_stages m_gain m_undo m_near m_quarter m_ln m_angle m_shift m_digit m_refused m_job m_jobKept m_result m_resultKept m_trace m_traceKept m_jobImage m_resultImage m_traceImage) H → va_S A s.heap H locs → lv_has ls 13 [(0, .ref (q 0)), (1, .int x1), (3, .int x3), (4, .int x4), (5, .int x5), (6, .int (bI x6)), (7, .long x7)] → W p l e rm_X11_steps s m args below meth c H locs 0 0 Q (F0 m 96 ls [.long t0]) := by
    intro  x1 x3 x4 x5 x6 x7 t0 m_x m_y m_z H locs ls h hP hS hl
    unfold f_X11_steps_b96 at h
    refine lv_lstore (lv' := [(9, .long t0), (0, .ref (q 0)), (1, .int x1), (3, .int x3), (4, .int x4), (5, .int x5), (6, .int (bI x6)), (7, .long x7)]) hx hb dX11_steps_96 hl (by decide) rfl (fun ls hl => ?_)
    refine lv_aload_n hx hb dX11_steps_98 rfl (lv_at hl 1 rfl) ?_
    refine lv_iload_n hx hb dX11_steps_99 rfl (lv_at hl 2 rfl) ?_
    refine lv_aload_n hx hb dX11_steps_100 rfl (lv_at hl 1 rfl) ?_
    refine gf_X11_344_M_0 X hP dX11_steps_101 ?_
    refine lv_iload hx hb dX11_steps_104 (lv_at hl 5 rfl) ?_
    obtain ⟨o7, hco7, h⟩ := bd_of h
    refine kV (rest := []) X dX11_steps_106 wd_6_187 mw_X11_shifted wd_6_189 wp_8_1 hP (k0 := 0) rfl rfl rfl hS (fun _ z => z) (c_X11_shifted hco7) rfl hl.1 rfl (Nat.le_of_ble_eq_true rfl) rfl rfl ⟨Nat.le_of_ble_eq_true rfl, Nat.le_of_ble_eq_true rfl⟩ (fun H locs hP _ _ hS => ?_)
    refine W.eq (g2 := F0 m 109 ls [.long o7]) rfl ?_
    refine lv_lstore (lv' := [(11, .long o7), (9, .long t0), (0, .ref (q 0)), (1, .int x1), (3, .int x3), (4, .int x4), (5, .int x5), (6, .int (bI x6)), (7, .long x7)]) hx hb dX11_steps_109 hl (by decide) rfl (fun ls hl => ?_)
    refine lv_aload_n hx hb dX11_steps_111 rfl (lv_at hl 2 rfl) ?_
    refine lv_iload hx hb dX11_steps_112 (lv_at hl 5 rfl) ?_
    refine lv_iconst (v := 2) hx hb dX11_steps_114 rfl ?_
    refine jx1 h (P := fun (v8 : Int64) => ∀ ls : Array Slot, lv_has ls 13 [(0, .ref (q 0)), (1, .int x1), (3, .int x3), (4, .int x4), (6, .int (bI x6)), (7, .long x7), (11, .long o7)] → W p l e rm_X11_steps s m args below meth c H locs 0 0 Q (F0 m 141 ls [.long v8, .ref (q 0)])) ?_ ?_
    · intro v8 h ls hl
      refine pf_X11_344_M_0 (v0 := v8) X hP hS dX11_steps_141 (fun H locs hP hS => ?_)
      refine lv_aload_n hx hb dX11_steps_144 rfl (lv_at hl 0 rfl) ?_
      refine lv_aload_n hx hb dX11_steps_145 rfl (lv_at hl 0 rfl) ?_
      refine gf_X11_334_M_0 X hP dX11_steps_146 ?_
      refine lv_lload hx hb dX11_steps_149 (lv_at hl 5 rfl) ?_
      refine lv_lload hx hb dX11_steps_151 (lv_at hl 6 rfl) ?_
      refine lv_lmul hx hb dX11_steps_153 ?_
      refine lv_ladd hx hb dX11_steps_154 ?_
      refine lv_topl (fun v9 ev9 => ?_)
      have h := lt_at ev9 h
      refine pf_X11_334_M_0 (v0 := v9) X hP hS dX11_steps_155 (fun H locs hP hS => ?_)
      refine lv_aload_n hx hb dX11_steps_158 rfl (lv_at hl 0 rfl) ?_
      refine lv_aload_n hx hb dX11_steps_159 rfl (lv_at hl 0 rfl) ?_
      refine gf_X11_331_M_0 X hP dX11_steps_160 ?_
      refine lv_lload hx hb dX11_steps_163 (lv_at hl 5 rfl) ?_
      refine lv_aload_n hx hb dX11_steps_165 rfl (lv_at hl 0 rfl) ?_
      refine gf_X11_208_M_0 X hP dX11_steps_166 ?_
      refine lv_bipush (v := 24) hx hb dX11_steps_169 rfl ?_
      refine lv_aload_n hx hb dX11_steps_171 rfl (lv_at hl 0 rfl) ?_
      refine lv_iload_n hx hb dX11_steps_172 rfl (lv_at hl 1 rfl) ?_
      refine lv_iload hx hb dX11_steps_173 (lv_at hl 3 rfl) ?_
      obtain ⟨o10, hco10, h⟩ := bd_of h
      refine kV (rest := [.int 24, .ref (q 13), .long x7, .long m_z, .ref (q 0)]) X dX11_steps_175 wd_5_216 mw_X11_row wd_5_218 wp_7_9 hP (k0 := 0) rfl rfl rfl hS (fun _ z => z) (c_X11_row hco10) rfl hl.1 rfl (Nat.le_of_ble_eq_true rfl) rfl rfl ⟨Nat.le_of_ble_eq_true rfl, Nat.le_of_ble_eq_true rfl⟩ (fun H locs hP _ _ hS => ?_)
      refine W.eq (g2 := F0 m 178 ls [.int o10, .int 24, .ref (q 13), .long x7, .long m_z, .ref (q 0)]) rfl ?_
      refine lv_imul hx hb dX11_steps_178 ?_
      refine lv_iload_n hx hb dX11_steps_179 rfl (lv_at hl 2 rfl) ?_
      refine lv_iadd hx hb dX11_steps_180 ?_
      obtain ⟨hi181, h⟩ := gv_of h
      refine al_M_13 X hP hi181 dX11_steps_181 ?_
      refine lv_lmul hx hb dX11_steps_182 ?_
      refine lv_lsub hx hb dX11_steps_183 ?_
      refine lv_topl (fun v11 ev11 => ?_)
      have h := lt_at ev11 h
      refine pf_X11_331_M_0 (v0 := v11) X hP hS dX11_steps_184 (fun H locs hP hS => ?_)
      refine lv_iload hx hb dX11_steps_187 (lv_at hl 4 rfl) ?_
      exact ret h hP hS dX11_steps_189
    · intro J h
      refine lv_icmp_ne (tgt := 131) hx hb dX11_steps_115 rfl (fun c115 => ?_) (fun c115 => ?_)
      · refine lv_aload_n hx hb dX11_steps_131 rfl (lv_at hl 2 rfl) ?_
        refine gf_X11_344_M_0 X hP dX11_steps_132 ?_
        refine lv_lload hx hb dX11_steps_135 (lv_at hl 8 rfl) ?_
        refine lv_lload hx hb dX11_steps_137 (lv_at hl 1 rfl) ?_
        refine lv_lmul hx hb dX11_steps_139 ?_
        refine lv_lsub hx hb dX11_steps_140 ?_
        exact J _ (lt_in c115 h) ls (lv_sub hl [2, 3, 4, 5, 7, 8, 0] rfl)
      · refine lv_aload_n hx hb dX11_steps_118 rfl (lv_at hl 2 rfl) ?_
        refine gf_X11_344_M_0 X hP dX11_steps_119 ?_
        refine lv_lload hx hb dX11_steps_122 (lv_at hl 8 rfl) ?_
        refine lv_lload hx hb dX11_steps_124 (lv_at hl 1 rfl) ?_
        refine lv_lmul hx hb dX11_steps_126 ?_
        refine lv_ladd hx hb dX11_steps_127 ?_
        refine lv_goto (tgt := 141) hx hb dX11_steps_128 rfl ?_
        exact J _ (lt_ip c115 h) ls (lv_sub hl [2, 3, 4, 5, 7, 8, 0] rfl)
  unfold f_X11_steps at h
  refine sgO X hS (sfX X).2.2.2.2.1 wd_7_0 dX11_steps_0 ?_
  refine lv_iload_n hx hb dX11_steps_3 rfl (lv_at hl 2 rfl) ?_
  obtain ⟨hi4, h⟩ := gv_of h
  refine sti X hS (sfX X).2.2.2.2.2.2.2.2.2.2.2.1 hi4 dX11_steps_4 ?_
  refine W.eq (g2 := F0 m 5 ls [.int (mdOf (p1).toNatClampNeg)]) rfl ?_
  refine lv_topi (fun v1 ev1 => ?_)
  have h := lt_at ev1 h
  refine lv_istore (lv' := [(4, .int v1), (0, .ref (q 0)), (1, .int p0), (2, .int p1), (3, .int p2)]) hx hb dX11_steps_5 hl (by decide) rfl (fun ls hl => ?_)
  refine lv_aload_n hx hb dX11_steps_7 rfl (lv_at hl 1 rfl) ?_
  refine gf_X11_154_M_0 X hP dX11_steps_8 ?_
  refine lv_bipush (v := 24) hx hb dX11_steps_11 rfl ?_
  refine lv_iload hx hb dX11_steps_13 (lv_at hl 0 rfl) ?_
  refine lv_imul hx hb dX11_steps_15 ?_
  refine lv_iload_n hx hb dX11_steps_16 rfl (lv_at hl 4 rfl) ?_
  refine lv_iadd hx hb dX11_steps_17 ?_
  obtain ⟨hi18, h⟩ := gv_of h
  refine al_M_14 X hP hi18 dX11_steps_18 ?_
  refine lv_topi (fun v2 ev2 => ?_)
  have h := lt_at ev2 h
  refine lv_istore (lv' := [(5, .int v2), (4, .int v1), (0, .ref (q 0)), (1, .int p0), (2, .int p1), (3, .int p2)]) hx hb dX11_steps_19 hl (by decide) rfl (fun ls hl => ?_)
  refine lv_iload_n hx hb dX11_steps_21 rfl (lv_at hl 4 rfl) ?_
  obtain ⟨o3, hco3, h⟩ := bd_of h
  refine kS (rest := []) X dX11_steps_22 wd_7_2 mw_X11_isTurning wd_7_3 hP hS (fun _ z => z) (c_X11_isTurning hco3) rfl hl.1 rfl (Nat.le_of_ble_eq_true rfl) rfl rfl ⟨Nat.le_of_ble_eq_true rfl, Nat.le_of_ble_eq_true rfl⟩ (fun H locs hP _ _ hS => ?_)
  refine W.eq (g2 := F0 m 25 ls [.int (bI o3)]) rfl ?_
  refine jx1 h (P := fun (v4 : Bool) => ∀ ls : Array Slot, lv_has ls 13 [(0, .ref (q 0)), (1, .int p0), (3, .int p2), (4, .int v1), (5, .int v2)] → W p l e rm_X11_steps s m args below meth c H locs 0 0 Q (F0 m 59 ls [.int (bI v4)])) ?_ ?_
  · intro v4 h ls hl
    refine lv_istore (lv' := [(6, .int (bI v4)), (0, .ref (q 0)), (1, .int p0), (3, .int p2), (4, .int v1), (5, .int v2)]) hx hb dX11_steps_59 hl (by decide) rfl (fun ls hl => ?_)
    refine lv_iload hx hb dX11_steps_61 (lv_at hl 0 rfl) ?_
    refine jx1 h (P := fun (v5 : Int64) => ∀ ls : Array Slot, lv_has ls 13 [(0, .ref (q 0)), (1, .int p0), (3, .int p2), (4, .int v1), (5, .int v2), (6, .int (bI v4))] → W p l e rm_X11_steps s m args below meth c H locs 0 0 Q (F0 m 73 ls [.long v5])) ?_ ?_
    · intro v5 h ls hl
      refine lv_lstore (lv' := [(7, .long v5), (0, .ref (q 0)), (1, .int p0), (3, .int p2), (4, .int v1), (5, .int v2), (6, .int (bI v4))]) hx hb dX11_steps_73 hl (by decide) rfl (fun ls hl => ?_)
      refine lv_iload hx hb dX11_steps_75 (lv_at hl 4 rfl) ?_
      refine lv_iconst (v := 1) hx hb dX11_steps_77 rfl ?_
      refine lv_icmp_ne (tgt := 85) hx hb dX11_steps_78 rfl (fun c78 => ?_) (fun c78 => ?_)
      · have h := br_n c78 h
        refine lv_aload_n hx hb dX11_steps_85 rfl (lv_at hl 1 rfl) ?_
        refine lv_iload_n hx hb dX11_steps_86 rfl (lv_at hl 2 rfl) ?_
        refine lv_aload_n hx hb dX11_steps_87 rfl (lv_at hl 1 rfl) ?_
        refine gf_X11_334_M_0 X hP dX11_steps_88 ?_
        refine lv_iload hx hb dX11_steps_91 (lv_at hl 5 rfl) ?_
        obtain ⟨o6, hco6, h⟩ := bd_of h
        refine kV (rest := []) X dX11_steps_93 wd_6_187 mw_X11_shifted wd_6_189 wp_8_1 hP (k0 := 0) rfl rfl rfl hS (fun _ z => z) (c_X11_shifted hco6) rfl hl.1 rfl (Nat.le_of_ble_eq_true rfl) rfl rfl ⟨Nat.le_of_ble_eq_true rfl, Nat.le_of_ble_eq_true rfl⟩ (fun H locs hP _ _ hS => ?_)
        refine W.eq (g2 := F0 m 96 ls [.long o6]) rfl ?_
        exact b96   p0 p2 v1 v2 v4 v5 o6 m_x m_y m_z _ _ _ h hP hS (lv_sub hl [1, 2, 3, 4, 5, 6, 0] rfl)
      · have h := br_p c78 h
        refine lv_lconst (v := 0) hx hb dX11_steps_81 rfl ?_
        refine lv_goto (tgt := 96) hx hb dX11_steps_82 rfl ?_
        exact b96   p0 p2 v1 v2 v4 v5 (0 : Int64) m_x m_y m_z _ _ _ h hP hS (lv_sub hl [1, 2, 3, 4, 5, 6, 0] rfl)
    · intro J h
      refine rb_eq (tgt := 70) hx hb dX11_steps_63 rfl (fun c63 => ?_) (fun c63 => ?_)
      · refine lv_ldc2 (v := (-1)) hx hb X.2.2.2.1 (X.2.2.2.2.1 _ wd_7_5) dX11_steps_70 ?_
        exact J _ (lt_in c63 h) ls (lv_sub hl [1, 2, 3, 4, 5, 0] rfl)
      · refine lv_lconst (v := 1) hx hb dX11_steps_66 rfl ?_
        refine lv_goto (tgt := 73) hx hb dX11_steps_67 rfl ?_
        exact J _ (lt_ip c63 h) ls (lv_sub hl [1, 2, 3, 4, 5, 0] rfl)
  · intro J h
    refine rb_eq (tgt := 45) hx hb dX11_steps_25 rfl (fun c25 => ?_) (fun c25 => ?_)
    · refine lv_aload_n hx hb dX11_steps_45 rfl (lv_at hl 2 rfl) ?_
      refine gf_X11_334_M_0 X hP dX11_steps_46 ?_
      refine lv_lconst (v := 0) hx hb dX11_steps_49 rfl ?_
      refine rl_ge (tgt := 58) hx hb dX11_steps_50 dX11_steps_51 rfl (fun c50 => ?_) (fun c50 => ?_)
      · refine lv_iconst (v := 0) hx hb dX11_steps_58 rfl ?_
        exact J _ (lt_ip c50 (lt_in c25 h)) ls (lv_sub hl [2, 3, 5, 1, 0] rfl)
      · refine lv_iconst (v := 1) hx hb dX11_steps_54 rfl ?_
        refine lv_goto (tgt := 59) hx hb dX11_steps_55 rfl ?_
        exact J _ (lt_in c50 (lt_in c25 h)) ls (lv_sub hl [2, 3, 5, 1, 0] rfl)
    · refine lv_aload_n hx hb dX11_steps_28 rfl (lv_at hl 2 rfl) ?_
      refine gf_X11_331_M_0 X hP dX11_steps_29 ?_
      refine lv_lconst (v := 0) hx hb dX11_steps_32 rfl ?_
      refine rl_lt (tgt := 41) hx hb dX11_steps_33 dX11_steps_34 rfl (fun c33 => ?_) (fun c33 => ?_)
      · refine lv_iconst (v := 0) hx hb dX11_steps_41 rfl ?_
        refine lv_goto (tgt := 59) hx hb dX11_steps_42 rfl ?_
        exact J _ (lt_ip c33 (lt_ip c25 h)) ls (lv_sub hl [2, 3, 5, 1, 0] rfl)
      · refine lv_iconst (v := 1) hx hb dX11_steps_37 rfl ?_
        refine lv_goto (tgt := 59) hx hb dX11_steps_38 rfl ?_
        exact J _ (lt_in c33 (lt_ip c25 h)) ls (lv_sub hl [2, 3, 5, 1, 0] rfl)
abbrev rm_X11_out : Room := { frames := 0, cells := 0, slots := 0, locals := 0 }
set_option maxRecDepth 100000 in
set_option maxHeartbeats 4000000 in
theorem c_X11_out {g : gT} {l : Launch} {A : Nat → Prop} {q : Nat → Nat} {m_thrown : Int32} {m_length : Int32} {m_at : Int32} {m_fault : Int32} {m_toldWords : Int32} {m_orders : Int32} {m_value : Int32} {m_hasUnit : Bool} {m_places : Int32} {m_clocks : Int32} {m_held : Bool} {m_x : Int64} {m_y : Int64} {m_z : Int64} {m_first : Int64} {m_second : Int64} {m_aside : Int32} {m_jobs : Int32} {m_jobsImage : Int32} {m_clocksImage : Int32} {m_heldImage : Bool} {m_hasImage : Bool} {m_tape : Nat → Int32} {m_read : Nat → Int32} {m_order : Nat → Int32} {m_width : Nat → Int32} {m_guard : Nat → Int32} {m_points : Nat → Int32} {m_stages : Nat → Int32} {m_gain : Nat → Int32} {m_undo : Nat → Int32} {m_near : Nat → Bool} {m_quarter : Nat → Int64} {m_ln : Nat → Int64} {m_angle : Nat → Int64} {m_shift : Nat → Int32} {m_digit : Nat → Int32} {m_refused : Nat → Int32} {m_job : Nat → Int32} {m_jobKept : Nat → Int32} {m_result : Nat → Int32} {m_resultKept : Nat → Int32} {m_trace : Nat → Int64} {m_traceKept : Nat → Int64} {m_jobImage : Nat → Int32} {m_resultImage : Nat → Int32} {m_traceImage : Nat → Int64} {p0 : Int32} {p1 : Int64} {o : Int64} (h : f_X11_out p0 p1 m_guard = some o) : Std g l yX11_out (.code yX11_out cX11_out 4 (some .long) :: gw) rm_X11_out A [.ref (q 0), .int p0, .long p1] (wM g q m_thrown m_length m_at m_fault m_toldWords m_orders m_value m_hasUnit m_places m_clocks m_held m_x m_y m_z m_first m_second m_aside m_jobs m_jobsImage m_clocksImage m_heldImage m_hasImage m_tape m_read m_order m_width m_guard m_points m_stages m_gain m_undo m_near m_quarter m_ln m_angle m_shift m_digit m_refused m_job m_jobKept m_result m_resultKept m_trace m_traceKept m_jobImage m_resultImage m_traceImage) (wM g q m_thrown m_length m_at m_fault m_toldWords m_orders m_value m_hasUnit m_places m_clocks m_held m_x m_y m_z m_first m_second m_aside m_jobs m_jobsImage m_clocksImage m_heldImage m_hasImage m_tape m_read m_order m_width m_guard m_points m_stages m_gain m_undo m_near m_quarter m_ln m_angle m_shift m_digit m_refused m_job m_jobKept m_result m_resultKept m_trace m_traceKept m_jobImage m_resultImage m_traceImage) (some (.long o)) := by
  refine std_l (own := RX11) (by decide +kernel) rfl (Nat.le_of_ble_eq_true rfl) ?_
  intro p e s m args below meth c Q X ret H locs hP hS ls hl
  have hx := X.1
  have hb := X.2.1
  have hl : lv_has ls 4 [(0, .ref (q 0)), (1, .int p0), (2, .long p1)] := hl
  have ret : ∀ {H : Heap} {locs : List Loc} {pc : Nat} {ls : Array Slot} {v : Int64} , some (v) = some o → WP g A (wM g q m_thrown m_length m_at m_fault m_toldWords m_orders m_value m_hasUnit m_places m_clocks m_held m_x m_y m_z m_first m_second m_aside m_jobs m_jobsImage m_clocksImage m_heldImage m_hasImage m_tape m_read m_order m_width m_guard m_points m_stages m_gain m_undo m_near m_quarter m_ln m_angle m_shift m_digit m_refused m_job m_jobKept m_result m_resultKept m_trace m_traceKept m_jobImage m_resultImage m_traceImage) H → va_S A s.heap H locs → decode cX11_out pc = .ok (.lreturn, 1) → W p l e rm_X11_out s m args below meth c H locs 0 0 Q (F0 m pc ls [.long v]) := by
    intro H locs pc ls v h hP hS hd
    cases h
    exact ret hP hS hd
  unfold f_X11_out at h
  refine lv_aload_n hx hb dX11_out_0 rfl (lv_at hl 0 rfl) ?_
  refine gf_X11_194_M_0 X hP dX11_out_1 ?_
  refine lv_iload_n hx hb dX11_out_4 rfl (lv_at hl 1 rfl) ?_
  obtain ⟨hi5, h⟩ := gv_of h
  refine al_M_5 X hP hi5 dX11_out_5 ?_
  refine lv_if_ne (tgt := 13) hx hb dX11_out_6 rfl (fun c6 => ?_) (fun c6 => ?_)
  · have h := br_n c6 h
    refine lv_lload_n hx hb dX11_out_13 rfl (lv_at hl 2 rfl) ?_
    refine lv_lconst (v := 1) hx hb dX11_out_14 rfl ?_
    refine lv_aload_n hx hb dX11_out_15 rfl (lv_at hl 0 rfl) ?_
    refine gf_X11_194_M_0 X hP dX11_out_16 ?_
    refine lv_iload_n hx hb dX11_out_19 rfl (lv_at hl 1 rfl) ?_
    obtain ⟨hi20, h⟩ := gv_of h
    refine al_M_5 X hP hi20 dX11_out_20 ?_
    refine lv_iconst (v := 1) hx hb dX11_out_21 rfl ?_
    refine lv_isub hx hb dX11_out_22 ?_
    refine lv_lshl hx hb dX11_out_23 rfl ?_
    refine lv_ladd hx hb dX11_out_24 ?_
    refine lv_aload_n hx hb dX11_out_25 rfl (lv_at hl 0 rfl) ?_
    refine gf_X11_194_M_0 X hP dX11_out_26 ?_
    refine lv_iload_n hx hb dX11_out_29 rfl (lv_at hl 1 rfl) ?_
    obtain ⟨hi30, h⟩ := gv_of h
    refine al_M_5 X hP hi30 dX11_out_30 ?_
    refine lv_lshr hx hb dX11_out_31 rfl ?_
    exact ret h hP hS dX11_out_32
  · have h := br_p c6 h
    refine lv_lload_n hx hb dX11_out_9 rfl (lv_at hl 2 rfl) ?_
    refine lv_goto (tgt := 32) hx hb dX11_out_10 rfl ?_
    exact ret h hP hS dX11_out_32
abbrev rm_X11_ends : Room := { frames := 2, cells := 0, slots := 0, locals := 54 }
set_option maxRecDepth 100000 in
set_option maxHeartbeats 4000000 in
theorem c_X11_ends {g : gT} {l : Launch} {A : Nat → Prop} {q : Nat → Nat} {m_thrown : Int32} {m_length : Int32} {m_at : Int32} {m_fault : Int32} {m_toldWords : Int32} {m_orders : Int32} {m_value : Int32} {m_hasUnit : Bool} {m_places : Int32} {m_clocks : Int32} {m_held : Bool} {m_x : Int64} {m_y : Int64} {m_z : Int64} {m_first : Int64} {m_second : Int64} {m_aside : Int32} {m_jobs : Int32} {m_jobsImage : Int32} {m_clocksImage : Int32} {m_heldImage : Bool} {m_hasImage : Bool} {m_tape : Nat → Int32} {m_read : Nat → Int32} {m_order : Nat → Int32} {m_width : Nat → Int32} {m_guard : Nat → Int32} {m_points : Nat → Int32} {m_stages : Nat → Int32} {m_gain : Nat → Int32} {m_undo : Nat → Int32} {m_near : Nat → Bool} {m_quarter : Nat → Int64} {m_ln : Nat → Int64} {m_angle : Nat → Int64} {m_shift : Nat → Int32} {m_digit : Nat → Int32} {m_refused : Nat → Int32} {m_job : Nat → Int32} {m_jobKept : Nat → Int32} {m_result : Nat → Int32} {m_resultKept : Nat → Int32} {m_trace : Nat → Int64} {m_traceKept : Nat → Int64} {m_jobImage : Nat → Int32} {m_resultImage : Nat → Int32} {m_traceImage : Nat → Int64} {p0 : Int32} {p1 : Int32} {o : Int64 × Int64} (h : f_X11_ends p0 p1 m_x m_y m_z m_first m_second m_aside m_guard m_points m_near m_ln m_digit = some o) : Std g l yX11_ends (.code yX11_ends cX11_ends 3 none :: gw) rm_X11_ends A [.ref (q 0), .int p0, .int p1] (wM g q m_thrown m_length m_at m_fault m_toldWords m_orders m_value m_hasUnit m_places m_clocks m_held m_x m_y m_z m_first m_second m_aside m_jobs m_jobsImage m_clocksImage m_heldImage m_hasImage m_tape m_read m_order m_width m_guard m_points m_stages m_gain m_undo m_near m_quarter m_ln m_angle m_shift m_digit m_refused m_job m_jobKept m_result m_resultKept m_trace m_traceKept m_jobImage m_resultImage m_traceImage) (wM g q m_thrown m_length m_at m_fault m_toldWords m_orders m_value m_hasUnit m_places m_clocks m_held m_x m_y m_z o.1 o.2 m_aside m_jobs m_jobsImage m_clocksImage m_heldImage m_hasImage m_tape m_read m_order m_width m_guard m_points m_stages m_gain m_undo m_near m_quarter m_ln m_angle m_shift m_digit m_refused m_job m_jobKept m_result m_resultKept m_trace m_traceKept m_jobImage m_resultImage m_traceImage) none := by
  refine std_v (own := RX11) (by decide +kernel) rfl (Nat.le_of_ble_eq_true rfl) ?_
  intro p e s m args below meth c Q X ret H locs hP hS ls hl
  have hx := X.1
  have hb := X.2.1
  have hl : lv_has ls 3 [(0, .ref (q 0)), (1, .int p0), (2, .int p1)] := hl
  have ret : ∀ {H : Heap} {locs : List Loc} {pc : Nat} {ls : Array Slot} {m_first : Int64} {m_second : Int64}, some (m_first, m_second) = some o → WP g A (wM g q m_thrown m_length m_at m_fault m_toldWords m_orders m_value m_hasUnit m_places m_clocks m_held m_x m_y m_z m_first m_second m_aside m_jobs m_jobsImage m_clocksImage m_heldImage m_hasImage m_tape m_read m_order m_width m_guard m_points m_stages m_gain m_undo m_near m_quarter m_ln m_angle m_shift m_digit m_refused m_job m_jobKept m_result m_resultKept m_trace m_traceKept m_jobImage m_resultImage m_traceImage) H → va_S A s.heap H locs → decode cX11_ends pc = .ok (.return_, 1) → W p l e rm_X11_ends s m args below meth c H locs 0 0 Q (F0 m pc ls []) := by
    intro H locs pc ls m_first m_second h hP hS hd
    cases h
    exact ret hP hS hd
  have b256 : ∀ (x1 : Int32) (m_first : Int64) (m_second : Int64) (H : Heap) (locs : List Loc) (ls : Array Slot), f_X11_ends_b256  m_x m_y m_z m_aside m_guard m_points m_near m_ln m_digit  x1 m_first m_second = some o → WP g A (wM g q m_thrown m_length m_at m_fault m_toldWords m_orders m_value m_hasUnit m_places m_clocks m_held m_x m_y m_z m_first m_second m_aside m_jobs m_jobsImage m_clocksImage m_heldImage m_hasImage m_tape m_read m_order m_width m_guard m_points m_stages m_gain m_undo m_near m_quarter m_ln m_angle m_shift m_digit m_refused m_job m_jobKept m_result m_resultKept m_trace m_traceKept m_jobImage m_resultImage m_traceImage) H → va_S A s.heap H locs → lv_has ls 3 [(0, .ref (q 0)), (1, .int x1)] → W p l e rm_X11_ends s m args below meth c H locs 0 0 Q (F0 m 256 ls []) := by
    intro  x1 m_first m_second H locs ls h hP hS hl
    unfold f_X11_ends_b256 at h
    refine lv_aload_n hx hb dX11_ends_256 rfl (lv_at hl 0 rfl) ?_
    refine lv_aload_n hx hb dX11_ends_257 rfl (lv_at hl 0 rfl) ?_
    refine lv_iload_n hx hb dX11_ends_258 rfl (lv_at hl 1 rfl) ?_
    refine lv_aload_n hx hb dX11_ends_259 rfl (lv_at hl 0 rfl) ?_
    refine gf_X11_324_M_0 X hP dX11_ends_260 ?_
    obtain ⟨o2, hco2, h⟩ := bd_of h
    refine kV (rest := [.ref (q 0)]) X dX11_ends_263 wd_7_10 mw_X11_out wd_7_12 wp_8_11 hP (k0 := 0) rfl rfl rfl hS (fun _ z => z) (c_X11_out hco2) rfl hl.1 rfl (Nat.le_of_ble_eq_true rfl) rfl rfl ⟨Nat.le_of_ble_eq_true rfl, Nat.le_of_ble_eq_true rfl⟩ (fun H locs hP _ _ hS => ?_)
    refine W.eq (g2 := F0 m 266 ls [.long o2, .ref (q 0)]) rfl ?_
    refine pf_X11_324_M_0 (v0 := o2) X hP hS dX11_ends_266 (fun H locs hP hS => ?_)
    refine lv_aload_n hx hb dX11_ends_269 rfl (lv_at hl 0 rfl) ?_
    refine lv_aload_n hx hb dX11_ends_270 rfl (lv_at hl 0 rfl) ?_
    refine lv_iload_n hx hb dX11_ends_271 rfl (lv_at hl 1 rfl) ?_
    refine lv_aload_n hx hb dX11_ends_272 rfl (lv_at hl 0 rfl) ?_
    refine gf_X11_328_M_0 X hP dX11_ends_273 ?_
    obtain ⟨o3, hco3, h⟩ := bd_of h
    refine kV (rest := [.ref (q 0)]) X dX11_ends_276 wd_7_10 mw_X11_out wd_7_12 wp_8_11 hP (k0 := 0) rfl rfl rfl hS (fun _ z => z) (c_X11_out hco3) rfl hl.1 rfl (Nat.le_of_ble_eq_true rfl) rfl rfl ⟨Nat.le_of_ble_eq_true rfl, Nat.le_of_ble_eq_true rfl⟩ (fun H locs hP _ _ hS => ?_)
    refine W.eq (g2 := F0 m 279 ls [.long o3, .ref (q 0)]) rfl ?_
    refine pf_X11_328_M_0 (v0 := o3) X hP hS dX11_ends_279 (fun H locs hP hS => ?_)
    exact ret h hP hS dX11_ends_282
  unfold f_X11_ends at h
  refine lv_aload_n hx hb dX11_ends_0 rfl (lv_at hl 0 rfl) ?_
  refine lv_lconst (v := 0) hx hb dX11_ends_1 rfl ?_
  refine pf_X11_328_M_0 (v0 := (0 : Int64)) X hP hS dX11_ends_2 (fun H locs hP hS => ?_)
  refine lv_iload_n hx hb dX11_ends_5 rfl (lv_at hl 2 rfl) ?_
  by_cases c6_0 : p1 = 0
  · have h := br_p c6_0 h
    refine lv_tableIn (off := 46) (tgt := 52) hx hb dX11_ends_6 (by rw [c6_0]; decide) (by rw [c6_0]; decide) (by rw [c6_0]; rfl) rfl ?_
    refine lv_aload_n hx hb dX11_ends_52 rfl (lv_at hl 0 rfl) ?_
    refine lv_aload_n hx hb dX11_ends_53 rfl (lv_at hl 0 rfl) ?_
    refine gf_X11_337_M_0 X hP dX11_ends_54 ?_
    refine lv_aload_n hx hb dX11_ends_57 rfl (lv_at hl 0 rfl) ?_
    refine gf_X11_344_M_0 X hP dX11_ends_58 ?_
    refine lv_aload_n hx hb dX11_ends_61 rfl (lv_at hl 0 rfl) ?_
    refine gf_X11_334_M_0 X hP dX11_ends_62 ?_
    obtain ⟨o1, hco1, h⟩ := bd_of h
    refine kV (rest := []) X dX11_ends_65 wd_6_232 mw_X11_turns wd_6_234 wp_8_8 hP (k0 := 0) rfl rfl rfl hS (fun _ z => z) (c_X11_turns hco1) rfl hl.1 rfl (Nat.le_of_ble_eq_true rfl) rfl rfl ⟨Nat.le_of_ble_eq_true rfl, Nat.le_of_ble_eq_true rfl⟩ (fun H locs hP _ _ hS => ?_)
    refine W.eq (g2 := F0 m 68 ls []) rfl ?_
    refine lv_goto (tgt := 256) hx hb dX11_ends_68 rfl ?_
    exact b256   p0 o1.1 o1.2 _ _ _ h hP hS (lv_sub hl [0, 1] rfl)
  have h := br_n c6_0 h
  by_cases c6_1 : p1 = 1
  · have h := br_p c6_1 h
    refine lv_tableIn (off := 65) (tgt := 71) hx hb dX11_ends_6 (by rw [c6_1]; decide) (by rw [c6_1]; decide) (by rw [c6_1]; rfl) rfl ?_
    refine lv_aload_n hx hb dX11_ends_71 rfl (lv_at hl 0 rfl) ?_
    refine lv_aload_n hx hb dX11_ends_72 rfl (lv_at hl 0 rfl) ?_
    refine lv_iload_n hx hb dX11_ends_73 rfl (lv_at hl 1 rfl) ?_
    refine lv_iconst (v := 0) hx hb dX11_ends_74 rfl ?_
    refine lv_aload_n hx hb dX11_ends_75 rfl (lv_at hl 0 rfl) ?_
    refine gf_X11_344_M_0 X hP dX11_ends_76 ?_
    obtain ⟨o4, hco4, h⟩ := bd_of h
    refine kV (rest := [.ref (q 0)]) X dX11_ends_79 wd_6_183 mw_X11_takenOut wd_6_185 wp_8_0 hP (k0 := 0) rfl rfl rfl hS (fun _ z => z) (c_X11_takenOut hco4) rfl hl.1 rfl (Nat.le_of_ble_eq_true rfl) rfl rfl ⟨Nat.le_of_ble_eq_true rfl, Nat.le_of_ble_eq_true rfl⟩ (fun H locs hP _ _ hS => ?_)
    refine W.eq (g2 := F0 m 82 ls [.long o4, .ref (q 0)]) rfl ?_
    refine pf_X11_324_M_0 (v0 := o4) X hP hS dX11_ends_82 (fun H locs hP hS => ?_)
    refine lv_aload_n hx hb dX11_ends_85 rfl (lv_at hl 0 rfl) ?_
    refine lv_aload_n hx hb dX11_ends_86 rfl (lv_at hl 0 rfl) ?_
    refine gf_X11_331_M_0 X hP dX11_ends_87 ?_
    refine pf_X11_328_M_0 (v0 := m_z) X hP hS dX11_ends_90 (fun H locs hP hS => ?_)
    refine lv_goto (tgt := 256) hx hb dX11_ends_93 rfl ?_
    exact b256   p0 o4 m_z _ _ _ h hP hS (lv_sub hl [0, 1] rfl)
  have h := br_n c6_1 h
  by_cases c6_2 : p1 = 2
  · have h := br_p c6_2 h
    refine lv_tableIn (off := 90) (tgt := 96) hx hb dX11_ends_6 (by rw [c6_2]; decide) (by rw [c6_2]; decide) (by rw [c6_2]; rfl) rfl ?_
    refine lv_aload_n hx hb dX11_ends_96 rfl (lv_at hl 0 rfl) ?_
    refine lv_aload_n hx hb dX11_ends_97 rfl (lv_at hl 0 rfl) ?_
    refine gf_X11_334_M_0 X hP dX11_ends_98 ?_
    refine lv_aload_n hx hb dX11_ends_101 rfl (lv_at hl 0 rfl) ?_
    refine gf_X11_337_M_0 X hP dX11_ends_102 ?_
    refine lv_lshl hx hb dX11_ends_105 rfl ?_
    refine lv_topl (fun v5 ev5 => ?_)
    have h := lt_at ev5 h
    refine pf_X11_324_M_0 (v0 := v5) X hP hS dX11_ends_106 (fun H locs hP hS => ?_)
    refine lv_goto (tgt := 256) hx hb dX11_ends_109 rfl ?_
    exact b256   p0 v5 (0 : Int64) _ _ _ h hP hS (lv_sub hl [0, 1] rfl)
  have h := br_n c6_2 h
  by_cases c6_3 : p1 = 3
  · have h := br_p c6_3 h
    refine lv_tableIn (off := 106) (tgt := 112) hx hb dX11_ends_6 (by rw [c6_3]; decide) (by rw [c6_3]; decide) (by rw [c6_3]; rfl) rfl ?_
    refine lv_aload_n hx hb dX11_ends_112 rfl (lv_at hl 0 rfl) ?_
    refine lv_aload_n hx hb dX11_ends_113 rfl (lv_at hl 0 rfl) ?_
    refine gf_X11_331_M_0 X hP dX11_ends_114 ?_
    refine lv_aload_n hx hb dX11_ends_117 rfl (lv_at hl 0 rfl) ?_
    refine gf_X11_337_M_0 X hP dX11_ends_118 ?_
    refine lv_lshl hx hb dX11_ends_121 rfl ?_
    refine lv_topl (fun v6 ev6 => ?_)
    have h := lt_at ev6 h
    refine pf_X11_324_M_0 (v0 := v6) X hP hS dX11_ends_122 (fun H locs hP hS => ?_)
    refine lv_goto (tgt := 256) hx hb dX11_ends_125 rfl ?_
    exact b256   p0 v6 (0 : Int64) _ _ _ h hP hS (lv_sub hl [0, 1] rfl)
  have h := br_n c6_3 h
  by_cases c6_4 : p1 = 4
  · have h := br_p c6_4 h
    refine lv_tableIn (off := 122) (tgt := 128) hx hb dX11_ends_6 (by rw [c6_4]; decide) (by rw [c6_4]; decide) (by rw [c6_4]; rfl) rfl ?_
    refine lv_aload_n hx hb dX11_ends_128 rfl (lv_at hl 0 rfl) ?_
    refine lv_aload_n hx hb dX11_ends_129 rfl (lv_at hl 0 rfl) ?_
    refine gf_X11_344_M_0 X hP dX11_ends_130 ?_
    refine pf_X11_324_M_0 (v0 := m_x) X hP hS dX11_ends_133 (fun H locs hP hS => ?_)
    refine lv_aload_n hx hb dX11_ends_136 rfl (lv_at hl 0 rfl) ?_
    refine lv_aload_n hx hb dX11_ends_137 rfl (lv_at hl 0 rfl) ?_
    refine gf_X11_334_M_0 X hP dX11_ends_138 ?_
    refine pf_X11_328_M_0 (v0 := m_y) X hP hS dX11_ends_141 (fun H locs hP hS => ?_)
    refine lv_goto (tgt := 256) hx hb dX11_ends_144 rfl ?_
    exact b256   p0 m_x m_y _ _ _ h hP hS (lv_sub hl [0, 1] rfl)
  have h := br_n c6_4 h
  by_cases c6_5 : p1 = 5
  · have h := br_p c6_5 h
    refine lv_tableIn (off := 141) (tgt := 147) hx hb dX11_ends_6 (by rw [c6_5]; decide) (by rw [c6_5]; decide) (by rw [c6_5]; rfl) rfl ?_
    refine lv_aload_n hx hb dX11_ends_147 rfl (lv_at hl 0 rfl) ?_
    refine lv_aload_n hx hb dX11_ends_148 rfl (lv_at hl 0 rfl) ?_
    refine lv_iload_n hx hb dX11_ends_149 rfl (lv_at hl 1 rfl) ?_
    refine lv_aload_n hx hb dX11_ends_150 rfl (lv_at hl 0 rfl) ?_
    refine gf_X11_344_M_0 X hP dX11_ends_151 ?_
    refine lv_aload_n hx hb dX11_ends_154 rfl (lv_at hl 0 rfl) ?_
    refine gf_X11_334_M_0 X hP dX11_ends_155 ?_
    refine lv_ladd hx hb dX11_ends_158 ?_
    refine lv_aload_n hx hb dX11_ends_159 rfl (lv_at hl 0 rfl) ?_
    refine gf_X11_337_M_0 X hP dX11_ends_160 ?_
    refine lv_ineg hx hb dX11_ends_163 ?_
    obtain ⟨o7, hco7, h⟩ := bd_of h
    refine kV (rest := [.ref (q 0)]) X dX11_ends_164 wd_6_225 mw_X11_moved wd_6_227 wp_8_7 hP (k0 := 0) rfl rfl rfl hS (fun _ z => z) (c_X11_moved hco7) rfl hl.1 rfl (Nat.le_of_ble_eq_true rfl) rfl rfl ⟨Nat.le_of_ble_eq_true rfl, Nat.le_of_ble_eq_true rfl⟩ (fun H locs hP _ _ hS => ?_)
    refine W.eq (g2 := F0 m 167 ls [.long o7, .ref (q 0)]) rfl ?_
    refine pf_X11_324_M_0 (v0 := o7) X hP hS dX11_ends_167 (fun H locs hP hS => ?_)
    refine lv_goto (tgt := 256) hx hb dX11_ends_170 rfl ?_
    exact b256   p0 o7 (0 : Int64) _ _ _ h hP hS (lv_sub hl [0, 1] rfl)
  have h := br_n c6_5 h
  by_cases c6_6 : p1 = 6
  · have h := br_p c6_6 h
    refine lv_tableIn (off := 167) (tgt := 173) hx hb dX11_ends_6 (by rw [c6_6]; decide) (by rw [c6_6]; decide) (by rw [c6_6]; rfl) rfl ?_
    refine lv_aload_n hx hb dX11_ends_173 rfl (lv_at hl 0 rfl) ?_
    refine lv_ldc2 (v := 2) hx hb X.2.2.2.1 (X.2.2.2.2.1 _ wd_5_201) dX11_ends_174 ?_
    refine lv_aload_n hx hb dX11_ends_177 rfl (lv_at hl 0 rfl) ?_
    refine gf_X11_331_M_0 X hP dX11_ends_178 ?_
    refine lv_lmul hx hb dX11_ends_181 ?_
    refine lv_aload_n hx hb dX11_ends_182 rfl (lv_at hl 0 rfl) ?_
    refine gf_X11_337_M_0 X hP dX11_ends_183 ?_
    refine lv_i2l hx hb dX11_ends_186 rfl ?_
    refine lv_aload_n hx hb dX11_ends_187 rfl (lv_at hl 0 rfl) ?_
    refine gf_X11_203_M_0 X hP dX11_ends_188 ?_
    refine lv_iload_n hx hb dX11_ends_191 rfl (lv_at hl 1 rfl) ?_
    obtain ⟨hi192, h⟩ := gv_of h
    refine al_M_12 X hP hi192 dX11_ends_192 ?_
    refine lv_lmul hx hb dX11_ends_193 ?_
    refine lv_ladd hx hb dX11_ends_194 ?_
    refine lv_topl (fun v8 ev8 => ?_)
    have h := lt_at ev8 h
    refine pf_X11_324_M_0 (v0 := v8) X hP hS dX11_ends_195 (fun H locs hP hS => ?_)
    refine lv_goto (tgt := 256) hx hb dX11_ends_198 rfl ?_
    exact b256   p0 v8 (0 : Int64) _ _ _ h hP hS (lv_sub hl [0, 1] rfl)
  have h := br_n c6_6 h
  by_cases c6_7 : p1 = 7
  · have h := br_p c6_7 h
    refine lv_tableIn (off := 195) (tgt := 201) hx hb dX11_ends_6 (by rw [c6_7]; decide) (by rw [c6_7]; decide) (by rw [c6_7]; rfl) rfl ?_
    refine lv_aload_n hx hb dX11_ends_201 rfl (lv_at hl 0 rfl) ?_
    refine lv_aload_n hx hb dX11_ends_202 rfl (lv_at hl 0 rfl) ?_
    refine lv_iload_n hx hb dX11_ends_203 rfl (lv_at hl 1 rfl) ?_
    refine lv_aload_n hx hb dX11_ends_204 rfl (lv_at hl 0 rfl) ?_
    refine lv_iload_n hx hb dX11_ends_205 rfl (lv_at hl 1 rfl) ?_
    refine lv_iconst (v := 2) hx hb dX11_ends_206 rfl ?_
    refine lv_aload_n hx hb dX11_ends_207 rfl (lv_at hl 0 rfl) ?_
    refine gf_X11_344_M_0 X hP dX11_ends_208 ?_
    obtain ⟨o9, hco9, h⟩ := bd_of h
    refine kV (rest := [.int p0, .ref (q 0), .ref (q 0)]) X dX11_ends_211 wd_6_183 mw_X11_takenOut wd_6_185 wp_8_0 hP (k0 := 0) rfl rfl rfl hS (fun _ z => z) (c_X11_takenOut hco9) rfl hl.1 rfl (Nat.le_of_ble_eq_true rfl) rfl rfl ⟨Nat.le_of_ble_eq_true rfl, Nat.le_of_ble_eq_true rfl⟩ (fun H locs hP _ _ hS => ?_)
    refine W.eq (g2 := F0 m 214 ls [.long o9, .int p0, .ref (q 0), .ref (q 0)]) rfl ?_
    refine lv_aload_n hx hb dX11_ends_214 rfl (lv_at hl 0 rfl) ?_
    refine gf_X11_337_M_0 X hP dX11_ends_215 ?_
    refine lv_ineg hx hb dX11_ends_218 ?_
    obtain ⟨o10, hco10, h⟩ := bd_of h
    refine kV (rest := [.ref (q 0)]) X dX11_ends_219 wd_6_225 mw_X11_moved wd_6_227 wp_8_7 hP (k0 := 0) rfl rfl rfl hS (fun _ z => z) (c_X11_moved hco10) rfl hl.1 rfl (Nat.le_of_ble_eq_true rfl) rfl rfl ⟨Nat.le_of_ble_eq_true rfl, Nat.le_of_ble_eq_true rfl⟩ (fun H locs hP _ _ hS => ?_)
    refine W.eq (g2 := F0 m 222 ls [.long o10, .ref (q 0)]) rfl ?_
    refine pf_X11_324_M_0 (v0 := o10) X hP hS dX11_ends_222 (fun H locs hP hS => ?_)
    refine lv_goto (tgt := 256) hx hb dX11_ends_225 rfl ?_
    exact b256   p0 o10 (0 : Int64) _ _ _ h hP hS (lv_sub hl [0, 1] rfl)
  have h := br_n c6_7 h
  refine lv_tableOut (tgt := 228) hx hb dX11_ends_6 (by have := lv_neT (a := 0) c6_0 rfl; have := lv_neT (a := 1) c6_1 rfl; have := lv_neT (a := 2) c6_2 rfl; have := lv_neT (a := 3) c6_3 rfl; have := lv_neT (a := 4) c6_4 rfl; have := lv_neT (a := 5) c6_5 rfl; have := lv_neT (a := 6) c6_6 rfl; have := lv_neT (a := 7) c6_7 rfl; omega) rfl ?_
  refine lv_aload_n hx hb dX11_ends_228 rfl (lv_at hl 0 rfl) ?_
  refine lv_aload_n hx hb dX11_ends_229 rfl (lv_at hl 0 rfl) ?_
  refine lv_iload_n hx hb dX11_ends_230 rfl (lv_at hl 1 rfl) ?_
  refine lv_iconst (v := 0) hx hb dX11_ends_231 rfl ?_
  refine lv_aload_n hx hb dX11_ends_232 rfl (lv_at hl 0 rfl) ?_
  refine gf_X11_344_M_0 X hP dX11_ends_233 ?_
  obtain ⟨o11, hco11, h⟩ := bd_of h
  refine kV (rest := [.ref (q 0)]) X dX11_ends_236 wd_6_183 mw_X11_takenOut wd_6_185 wp_8_0 hP (k0 := 0) rfl rfl rfl hS (fun _ z => z) (c_X11_takenOut hco11) rfl hl.1 rfl (Nat.le_of_ble_eq_true rfl) rfl rfl ⟨Nat.le_of_ble_eq_true rfl, Nat.le_of_ble_eq_true rfl⟩ (fun H locs hP _ _ hS => ?_)
  refine W.eq (g2 := F0 m 239 ls [.long o11, .ref (q 0)]) rfl ?_
  refine pf_X11_324_M_0 (v0 := o11) X hP hS dX11_ends_239 (fun H locs hP hS => ?_)
  refine lv_aload_n hx hb dX11_ends_242 rfl (lv_at hl 0 rfl) ?_
  refine lv_aload_n hx hb dX11_ends_243 rfl (lv_at hl 0 rfl) ?_
  refine lv_iload_n hx hb dX11_ends_244 rfl (lv_at hl 1 rfl) ?_
  refine lv_iconst (v := 0) hx hb dX11_ends_245 rfl ?_
  refine lv_aload_n hx hb dX11_ends_246 rfl (lv_at hl 0 rfl) ?_
  refine gf_X11_334_M_0 X hP dX11_ends_247 ?_
  obtain ⟨o12, hco12, h⟩ := bd_of h
  refine kV (rest := [.ref (q 0)]) X dX11_ends_250 wd_6_183 mw_X11_takenOut wd_6_185 wp_8_0 hP (k0 := 0) rfl rfl rfl hS (fun _ z => z) (c_X11_takenOut hco12) rfl hl.1 rfl (Nat.le_of_ble_eq_true rfl) rfl rfl ⟨Nat.le_of_ble_eq_true rfl, Nat.le_of_ble_eq_true rfl⟩ (fun H locs hP _ _ hS => ?_)
  refine W.eq (g2 := F0 m 253 ls [.long o12, .ref (q 0)]) rfl ?_
  refine pf_X11_328_M_0 (v0 := o12) X hP hS dX11_ends_253 (fun H locs hP hS => ?_)
  exact b256   p0 o11 o12 _ _ _ h hP hS (lv_sub hl [0, 1] rfl)
abbrev rm_X11_comes : Room := { frames := 3, cells := 0, slots := 0, locals := 81 }
set_option maxRecDepth 100000 in
set_option maxHeartbeats 4000000 in
theorem c_X11_comes {g : gT} {l : Launch} {A : Nat → Prop} {q : Nat → Nat} {m_thrown : Int32} {m_length : Int32} {m_at : Int32} {m_fault : Int32} {m_toldWords : Int32} {m_orders : Int32} {m_value : Int32} {m_hasUnit : Bool} {m_places : Int32} {m_clocks : Int32} {m_held : Bool} {m_x : Int64} {m_y : Int64} {m_z : Int64} {m_first : Int64} {m_second : Int64} {m_aside : Int32} {m_jobs : Int32} {m_jobsImage : Int32} {m_clocksImage : Int32} {m_heldImage : Bool} {m_hasImage : Bool} {m_tape : Nat → Int32} {m_read : Nat → Int32} {m_order : Nat → Int32} {m_width : Nat → Int32} {m_guard : Nat → Int32} {m_points : Nat → Int32} {m_stages : Nat → Int32} {m_gain : Nat → Int32} {m_undo : Nat → Int32} {m_near : Nat → Bool} {m_quarter : Nat → Int64} {m_ln : Nat → Int64} {m_angle : Nat → Int64} {m_shift : Nat → Int32} {m_digit : Nat → Int32} {m_refused : Nat → Int32} {m_job : Nat → Int32} {m_jobKept : Nat → Int32} {m_result : Nat → Int32} {m_resultKept : Nat → Int32} {m_trace : Nat → Int64} {m_traceKept : Nat → Int64} {m_jobImage : Nat → Int32} {m_resultImage : Nat → Int32} {m_traceImage : Nat → Int64} {p0 : Int32} {p1 : Int32} {p2 : Int64} {p3 : Int64} {p4 : Int64} {o : Bool × Int64 × Int64 × Int64 × Int64 × Int64 × Int32} (h : f_X11_comes p0 p1 p2 p3 p4 m_x m_y m_z m_first m_second m_aside m_width m_guard m_points m_stages m_undo m_near m_quarter m_ln m_angle m_shift m_digit = some o) : Std g l yX11_comes (.code yX11_comes cX11_comes 11 (some .boolean) :: gw) rm_X11_comes A [.ref (q 0), .int p0, .int p1, .long p2, .long p3, .long p4] (wM g q m_thrown m_length m_at m_fault m_toldWords m_orders m_value m_hasUnit m_places m_clocks m_held m_x m_y m_z m_first m_second m_aside m_jobs m_jobsImage m_clocksImage m_heldImage m_hasImage m_tape m_read m_order m_width m_guard m_points m_stages m_gain m_undo m_near m_quarter m_ln m_angle m_shift m_digit m_refused m_job m_jobKept m_result m_resultKept m_trace m_traceKept m_jobImage m_resultImage m_traceImage) (wM g q m_thrown m_length m_at m_fault m_toldWords m_orders m_value m_hasUnit m_places m_clocks m_held o.2.1 o.2.2.1 o.2.2.2.1 o.2.2.2.2.1 o.2.2.2.2.2.1 o.2.2.2.2.2.2 m_jobs m_jobsImage m_clocksImage m_heldImage m_hasImage m_tape m_read m_order m_width m_guard m_points m_stages m_gain m_undo m_near m_quarter m_ln m_angle m_shift m_digit m_refused m_job m_jobKept m_result m_resultKept m_trace m_traceKept m_jobImage m_resultImage m_traceImage) (some (.int (bI o.1))) := by
  refine std_z (own := RX11) (by decide +kernel) rfl (Nat.le_of_ble_eq_true rfl) ?_
  intro p e s m args below meth c Q X ret H locs hP hS ls hl
  have hx := X.1
  have hb := X.2.1
  have hl : lv_has ls 11 [(0, .ref (q 0)), (1, .int p0), (2, .int p1), (3, .long p2), (5, .long p3), (7, .long p4)] := hl
  have ret : ∀ {H : Heap} {locs : List Loc} {pc : Nat} {ls : Array Slot} {v : Bool} {m_x : Int64} {m_y : Int64} {m_z : Int64} {m_first : Int64} {m_second : Int64} {m_aside : Int32}, some (v, m_x, m_y, m_z, m_first, m_second, m_aside) = some o → WP g A (wM g q m_thrown m_length m_at m_fault m_toldWords m_orders m_value m_hasUnit m_places m_clocks m_held m_x m_y m_z m_first m_second m_aside m_jobs m_jobsImage m_clocksImage m_heldImage m_hasImage m_tape m_read m_order m_width m_guard m_points m_stages m_gain m_undo m_near m_quarter m_ln m_angle m_shift m_digit m_refused m_job m_jobKept m_result m_resultKept m_trace m_traceKept m_jobImage m_resultImage m_traceImage) H → va_S A s.heap H locs → decode cX11_comes pc = .ok (.ireturn, 1) → W p l e rm_X11_comes s m args below meth c H locs 0 0 Q (F0 m pc ls [.int (bI v)]) := by
    intro H locs pc ls v m_x m_y m_z m_first m_second m_aside h hP hS hd
    cases h
    exact ret hP hS hd
  have l30 : ∀ (n : Nat), ∀ (x1 : Int32) (x2 : Int32) (x9 : Int32) (m_x : Int64) (m_y : Int64) (m_z : Int64) (m_first : Int64) (m_second : Int64) (m_aside : Int32) (H : Heap) (locs : List Loc) (ls : Array Slot), f_X11_comes_l30  m_width m_guard m_points m_stages m_undo m_near m_quarter m_ln m_angle m_shift m_digit  n x1 x2 x9 m_x m_y m_z m_first m_second m_aside = some o → WP g A (wM g q m_thrown m_length m_at m_fault m_toldWords m_orders m_value m_hasUnit m_places m_clocks m_held m_x m_y m_z m_first m_second m_aside m_jobs m_jobsImage m_clocksImage m_heldImage m_hasImage m_tape m_read m_order m_width m_guard m_points m_stages m_gain m_undo m_near m_quarter m_ln m_angle m_shift m_digit m_refused m_job m_jobKept m_result m_resultKept m_trace m_traceKept m_jobImage m_resultImage m_traceImage) H → va_S A s.heap H locs → lv_has ls 11 [(0, .ref (q 0)), (1, .int x1), (2, .int x2), (9, .int x9)] → W p l e rm_X11_comes s m args below meth c H locs 0 0 Q (F0 m 30 ls []) := by
    intro  n
    induction n with
    | zero =>
      intro x1 x2 x9 m_x m_y m_z m_first m_second m_aside H locs ls h
      exact nz_of h
    | succ n ih =>
      intro x1 x2 x9 m_x m_y m_z m_first m_second m_aside H locs ls h hP hS hl
      rw [f_X11_comes_l30] at h
      refine lv_iload hx hb dX11_comes_30 (lv_at hl 3 rfl) ?_
      refine lv_aload_n hx hb dX11_comes_32 rfl (lv_at hl 0 rfl) ?_
      refine gf_X11_171_M_0 X hP dX11_comes_33 ?_
      refine lv_iload_n hx hb dX11_comes_36 rfl (lv_at hl 1 rfl) ?_
      obtain ⟨hi37, h⟩ := gv_of h
      refine al_M_7 X hP hi37 dX11_comes_37 ?_
      refine lv_icmp_ge (tgt := 57) hx hb dX11_comes_38 rfl (fun c38 => ?_) (fun c38 => ?_)
      · have h := br_p c38 h
        refine lv_aload_n hx hb dX11_comes_57 rfl (lv_at hl 0 rfl) ?_
        refine lv_iload_n hx hb dX11_comes_58 rfl (lv_at hl 1 rfl) ?_
        refine lv_iload_n hx hb dX11_comes_59 rfl (lv_at hl 2 rfl) ?_
        obtain ⟨o3, hco3, h⟩ := bd_of h
        refine kV (rest := []) X dX11_comes_60 wd_7_6 mw_X11_ends wd_7_8 wp_8_10 hP (k0 := 0) rfl rfl rfl hS (fun _ z => z) (c_X11_ends hco3) rfl hl.1 rfl (Nat.le_of_ble_eq_true rfl) rfl rfl ⟨Nat.le_of_ble_eq_true rfl, Nat.le_of_ble_eq_true rfl⟩ (fun H locs hP _ _ hS => ?_)
        refine W.eq (g2 := F0 m 63 ls []) rfl ?_
        refine lv_iconst (v := 1) hx hb dX11_comes_63 rfl ?_
        exact ret h hP hS dX11_comes_64
      · have h := br_n c38 h
        refine lv_aload_n hx hb dX11_comes_41 rfl (lv_at hl 0 rfl) ?_
        refine lv_iload_n hx hb dX11_comes_42 rfl (lv_at hl 1 rfl) ?_
        refine lv_iload_n hx hb dX11_comes_43 rfl (lv_at hl 2 rfl) ?_
        refine lv_iload hx hb dX11_comes_44 (lv_at hl 3 rfl) ?_
        obtain ⟨o4, hco4, h⟩ := bd_of h
        refine kV (rest := []) X dX11_comes_46 wd_6_236 mw_X11_steps wd_6_238 wp_8_9 hP (k0 := 0) rfl rfl rfl hS (fun _ z => z) (c_X11_steps hco4) rfl hl.1 rfl (Nat.le_of_ble_eq_true rfl) rfl rfl ⟨Nat.le_of_ble_eq_true rfl, Nat.le_of_ble_eq_true rfl⟩ (fun H locs hP _ _ hS => ?_)
        refine W.eq (g2 := F0 m 49 ls [.int (bI o4.1)]) rfl ?_
        refine lv_istore (lv' := [(10, .int (bI o4.1)), (0, .ref (q 0)), (1, .int x1), (2, .int x2), (9, .int x9)]) hx hb dX11_comes_49 hl (by decide) rfl (fun ls hl => ?_)
        obtain ⟨v5, ev5⟩ : ∃ z : Int32, z = (x9 + 1) := ⟨_, rfl⟩
        have h := lt_at ev5 h
        refine lv_iinc (v := v5) (lv' := [(9, .int v5), (10, .int (bI o4.1)), (0, .ref (q 0)), (1, .int x1), (2, .int x2)]) hx hb dX11_comes_51 hl (k := 4) rfl (by rw [ev5]; rfl) (by decide) rfl (fun ls hl => ?_)
        refine lv_goto (tgt := 30) hx hb dX11_comes_54 rfl ?_
        exact ih x1 x2 v5 o4.2.1 o4.2.2.1 o4.2.2.2 m_first m_second m_aside _ _ _ h hP hS (lv_sub hl [2, 3, 4, 0] rfl)
  unfold f_X11_comes at h
  refine lv_aload_n hx hb dX11_comes_0 rfl (lv_at hl 0 rfl) ?_
  refine lv_iload_n hx hb dX11_comes_1 rfl (lv_at hl 1 rfl) ?_
  refine lv_iload_n hx hb dX11_comes_2 rfl (lv_at hl 2 rfl) ?_
  refine lv_lload_n hx hb dX11_comes_3 rfl (lv_at hl 3 rfl) ?_
  refine lv_lload hx hb dX11_comes_4 (lv_at hl 4 rfl) ?_
  refine lv_lload hx hb dX11_comes_6 (lv_at hl 5 rfl) ?_
  obtain ⟨o1, hco1, h⟩ := bd_of h
  refine kV (rest := []) X dX11_comes_8 wd_6_204 mw_X11_isGood wd_6_206 wp_8_4 hP (k0 := 0) rfl rfl rfl hS (fun _ z => z) (c_X11_isGood hco1) rfl hl.1 rfl (Nat.le_of_ble_eq_true rfl) rfl rfl ⟨Nat.le_of_ble_eq_true rfl, Nat.le_of_ble_eq_true rfl⟩ (fun H locs hP _ _ hS => ?_)
  refine W.eq (g2 := F0 m 11 ls [.int (bI o1)]) rfl ?_
  refine rb_ne (tgt := 16) hx hb dX11_comes_11 rfl (fun c11 => ?_) (fun c11 => ?_)
  · have h := br_p c11 h
    refine lv_aload_n hx hb dX11_comes_16 rfl (lv_at hl 0 rfl) ?_
    refine lv_iload_n hx hb dX11_comes_17 rfl (lv_at hl 1 rfl) ?_
    refine lv_iload_n hx hb dX11_comes_18 rfl (lv_at hl 2 rfl) ?_
    refine lv_lload_n hx hb dX11_comes_19 rfl (lv_at hl 3 rfl) ?_
    refine lv_lload hx hb dX11_comes_20 (lv_at hl 4 rfl) ?_
    refine lv_lload hx hb dX11_comes_22 (lv_at hl 5 rfl) ?_
    obtain ⟨o2, hco2, h⟩ := bd_of h
    refine kV (rest := []) X dX11_comes_24 wd_6_212 mw_X11_begins wd_6_214 wp_8_5 hP (k0 := 0) rfl rfl rfl hS (fun _ z => z) (c_X11_begins hco2) rfl hl.1 rfl (Nat.le_of_ble_eq_true rfl) rfl rfl ⟨Nat.le_of_ble_eq_true rfl, Nat.le_of_ble_eq_true rfl⟩ (fun H locs hP _ _ hS => ?_)
    refine W.eq (g2 := F0 m 27 ls []) rfl ?_
    refine lv_iconst (v := 0) hx hb dX11_comes_27 rfl ?_
    refine lv_istore (lv' := [(9, .int 0), (0, .ref (q 0)), (1, .int p0), (2, .int p1), (3, .long p2), (5, .long p3), (7, .long p4)]) hx hb dX11_comes_28 hl (by decide) rfl (fun ls hl => ?_)
    exact l30  FU p0 p1 (0 : Int32) o2.1 o2.2.1 o2.2.2.1 o2.2.2.2.1 o2.2.2.2.2.1 o2.2.2.2.2.2 _ _ _ h hP hS (lv_sub hl [1, 2, 3, 0] rfl)
  · have h := br_n c11 h
    refine lv_iconst (v := 0) hx hb dX11_comes_14 rfl ?_
    exact ret h hP hS dX11_comes_15
abbrev rm_X11_isKind : Room := { frames := 1, cells := 0, slots := 0, locals := 25 }
set_option maxRecDepth 100000 in
set_option maxHeartbeats 4000000 in
theorem c_X11_isKind {g : gT} {l : Launch} {A : Nat → Prop} {q : Nat → Nat} {m_thrown : Int32} {m_length : Int32} {m_at : Int32} {m_fault : Int32} {m_toldWords : Int32} {m_orders : Int32} {m_value : Int32} {m_hasUnit : Bool} {m_places : Int32} {m_clocks : Int32} {m_held : Bool} {m_x : Int64} {m_y : Int64} {m_z : Int64} {m_first : Int64} {m_second : Int64} {m_aside : Int32} {m_jobs : Int32} {m_jobsImage : Int32} {m_clocksImage : Int32} {m_heldImage : Bool} {m_hasImage : Bool} {m_tape : Nat → Int32} {m_read : Nat → Int32} {m_order : Nat → Int32} {m_width : Nat → Int32} {m_guard : Nat → Int32} {m_points : Nat → Int32} {m_stages : Nat → Int32} {m_gain : Nat → Int32} {m_undo : Nat → Int32} {m_near : Nat → Bool} {m_quarter : Nat → Int64} {m_ln : Nat → Int64} {m_angle : Nat → Int64} {m_shift : Nat → Int32} {m_digit : Nat → Int32} {m_refused : Nat → Int32} {m_job : Nat → Int32} {m_jobKept : Nat → Int32} {m_result : Nat → Int32} {m_resultKept : Nat → Int32} {m_trace : Nat → Int64} {m_traceKept : Nat → Int64} {m_jobImage : Nat → Int32} {m_resultImage : Nat → Int32} {m_traceImage : Nat → Int64} {p0 : Int32} {o : Bool} (h : f_X11_isKind p0 m_hasUnit = some o) : Std g l yX11_isKind (.code yX11_isKind cX11_isKind 2 (some .boolean) :: gw) rm_X11_isKind A [.ref (q 0), .int p0] (wM g q m_thrown m_length m_at m_fault m_toldWords m_orders m_value m_hasUnit m_places m_clocks m_held m_x m_y m_z m_first m_second m_aside m_jobs m_jobsImage m_clocksImage m_heldImage m_hasImage m_tape m_read m_order m_width m_guard m_points m_stages m_gain m_undo m_near m_quarter m_ln m_angle m_shift m_digit m_refused m_job m_jobKept m_result m_resultKept m_trace m_traceKept m_jobImage m_resultImage m_traceImage) (wM g q m_thrown m_length m_at m_fault m_toldWords m_orders m_value m_hasUnit m_places m_clocks m_held m_x m_y m_z m_first m_second m_aside m_jobs m_jobsImage m_clocksImage m_heldImage m_hasImage m_tape m_read m_order m_width m_guard m_points m_stages m_gain m_undo m_near m_quarter m_ln m_angle m_shift m_digit m_refused m_job m_jobKept m_result m_resultKept m_trace m_traceKept m_jobImage m_resultImage m_traceImage) (some (.int (bI o))) := by
  refine std_z (own := RX11) (by decide +kernel) rfl (Nat.le_of_ble_eq_true rfl) ?_
  intro p e s m args below meth c Q X ret H locs hP hS ls hl
  have hx := X.1
  have hb := X.2.1
  have hl : lv_has ls 2 [(0, .ref (q 0)), (1, .int p0)] := hl
  have ret : ∀ {H : Heap} {locs : List Loc} {pc : Nat} {ls : Array Slot} {v : Bool} , some (v) = some o → WP g A (wM g q m_thrown m_length m_at m_fault m_toldWords m_orders m_value m_hasUnit m_places m_clocks m_held m_x m_y m_z m_first m_second m_aside m_jobs m_jobsImage m_clocksImage m_heldImage m_hasImage m_tape m_read m_order m_width m_guard m_points m_stages m_gain m_undo m_near m_quarter m_ln m_angle m_shift m_digit m_refused m_job m_jobKept m_result m_resultKept m_trace m_traceKept m_jobImage m_resultImage m_traceImage) H → va_S A s.heap H locs → decode cX11_isKind pc = .ok (.ireturn, 1) → W p l e rm_X11_isKind s m args below meth c H locs 0 0 Q (F0 m pc ls [.int (bI v)]) := by
    intro H locs pc ls v h hP hS hd
    cases h
    exact ret hP hS hd
  have b23 : ∀  (H : Heap) (locs : List Loc) (ls : Array Slot), f_X11_isKind_b23  m_hasUnit   = some o → WP g A (wM g q m_thrown m_length m_at m_fault m_toldWords m_orders m_value m_hasUnit m_places m_clocks m_held m_x m_y m_z m_first m_second m_aside m_jobs m_jobsImage m_clocksImage m_heldImage m_hasImage m_tape m_read m_order m_width m_guard m_points m_stages m_gain m_undo m_near m_quarter m_ln m_angle m_shift m_digit m_refused m_job m_jobKept m_result m_resultKept m_trace m_traceKept m_jobImage m_resultImage m_traceImage) H → va_S A s.heap H locs → lv_has ls 2 [] → W p l e rm_X11_isKind s m args below meth c H locs 0 0 Q (F0 m 23 ls []) := by
    intro   H locs ls h hP hS hl
    unfold f_X11_isKind_b23 at h
    refine lv_iconst (v := 0) hx hb dX11_isKind_23 rfl ?_
    exact ret h hP hS dX11_isKind_24
  unfold f_X11_isKind at h
  refine lv_aload_n hx hb dX11_isKind_0 rfl (lv_at hl 0 rfl) ?_
  refine gf_X11_260_M_0 X hP dX11_isKind_1 ?_
  refine rb_eq (tgt := 23) hx hb dX11_isKind_4 rfl (fun c4 => ?_) (fun c4 => ?_)
  · have h := br_n c4 h
    exact b23    _ _ _ h hP hS (lv_sub hl [] rfl)
  · have h := br_p c4 h
    refine lv_iload_n hx hb dX11_isKind_7 rfl (lv_at hl 1 rfl) ?_
    refine lv_i2l hx hb dX11_isKind_8 rfl ?_
    refine lv_lconst (v := 0) hx hb dX11_isKind_9 rfl ?_
    refine lv_ldc2 (v := 8) hx hb X.2.2.2.1 (X.2.2.2.2.1 _ wd_6_199) dX11_isKind_10 ?_
    obtain ⟨o1, hco1, h⟩ := bd_of h
    refine kS (rest := []) X dX11_isKind_13 wd_5_153 mw_X11_isIn wd_5_154 hP hS (fun _ z => z) (c_X11_isIn hco1) rfl hl.1 rfl (Nat.le_of_ble_eq_true rfl) rfl rfl ⟨Nat.le_of_ble_eq_true rfl, Nat.le_of_ble_eq_true rfl⟩ (fun H locs hP _ _ hS => ?_)
    refine W.eq (g2 := F0 m 16 ls [.int (bI o1)]) rfl ?_
    refine jx1 h (P := fun (v2 : Bool) => ∀ ls : Array Slot, lv_has ls 2 [] → W p l e rm_X11_isKind s m args below meth c H locs 0 0 Q (F0 m 24 ls [.int (bI v2)])) ?_ ?_
    · intro v2 h ls hl
      exact ret h hP hS dX11_isKind_24
    · intro J h
      refine rb_eq (tgt := 23) hx hb dX11_isKind_16 rfl (fun c16 => ?_) (fun c16 => ?_)
      · refine lv_iconst (v := 0) hx hb dX11_isKind_23 rfl ?_
        exact J _ (lt_in c16 h) ls (lv_sub hl [] rfl)
      · refine lv_iconst (v := 1) hx hb dX11_isKind_19 rfl ?_
        refine lv_goto (tgt := 24) hx hb dX11_isKind_20 rfl ?_
        exact J _ (lt_ip c16 h) ls (lv_sub hl [] rfl)
abbrev rm_X11_value : Room := { frames := 4, cells := 0, slots := 0, locals := 111 }
set_option maxRecDepth 100000 in
set_option maxHeartbeats 4000000 in
theorem c_X11_value {g : gT} {l : Launch} {A : Nat → Prop} {q : Nat → Nat} {m_thrown : Int32} {m_length : Int32} {m_at : Int32} {m_fault : Int32} {m_toldWords : Int32} {m_orders : Int32} {m_value : Int32} {m_hasUnit : Bool} {m_places : Int32} {m_clocks : Int32} {m_held : Bool} {m_x : Int64} {m_y : Int64} {m_z : Int64} {m_first : Int64} {m_second : Int64} {m_aside : Int32} {m_jobs : Int32} {m_jobsImage : Int32} {m_clocksImage : Int32} {m_heldImage : Bool} {m_hasImage : Bool} {m_tape : Nat → Int32} {m_read : Nat → Int32} {m_order : Nat → Int32} {m_width : Nat → Int32} {m_guard : Nat → Int32} {m_points : Nat → Int32} {m_stages : Nat → Int32} {m_gain : Nat → Int32} {m_undo : Nat → Int32} {m_near : Nat → Bool} {m_quarter : Nat → Int64} {m_ln : Nat → Int64} {m_angle : Nat → Int64} {m_shift : Nat → Int32} {m_digit : Nat → Int32} {m_refused : Nat → Int32} {m_job : Nat → Int32} {m_jobKept : Nat → Int32} {m_result : Nat → Int32} {m_resultKept : Nat → Int32} {m_trace : Nat → Int64} {m_traceKept : Nat → Int64} {m_jobImage : Nat → Int32} {m_resultImage : Nat → Int32} {m_traceImage : Nat → Int64} {p0 : Int32} {p1 : Int32} {p2 : Int32} {p3 : Int32} {p4 : Int32} {o : Int32 × Int32 × Int64 × Int64 × Int64 × Int64 × Int64 × Int32} (h : f_X11_value p0 p1 p2 p3 p4 m_thrown m_hasUnit m_x m_y m_z m_first m_second m_aside m_width m_guard m_points m_stages m_undo m_near m_quarter m_ln m_angle m_shift m_digit = some o) : Std g l yX11_value (.code yX11_value cX11_value 6 (some .int) :: gw) rm_X11_value A [.ref (q 0), .int p0, .int p1, .int p2, .int p3, .int p4] (wM g q m_thrown m_length m_at m_fault m_toldWords m_orders m_value m_hasUnit m_places m_clocks m_held m_x m_y m_z m_first m_second m_aside m_jobs m_jobsImage m_clocksImage m_heldImage m_hasImage m_tape m_read m_order m_width m_guard m_points m_stages m_gain m_undo m_near m_quarter m_ln m_angle m_shift m_digit m_refused m_job m_jobKept m_result m_resultKept m_trace m_traceKept m_jobImage m_resultImage m_traceImage) (wM g q o.2.1 m_length m_at m_fault m_toldWords m_orders m_value m_hasUnit m_places m_clocks m_held o.2.2.1 o.2.2.2.1 o.2.2.2.2.1 o.2.2.2.2.2.1 o.2.2.2.2.2.2.1 o.2.2.2.2.2.2.2 m_jobs m_jobsImage m_clocksImage m_heldImage m_hasImage m_tape m_read m_order m_width m_guard m_points m_stages m_gain m_undo m_near m_quarter m_ln m_angle m_shift m_digit m_refused m_job m_jobKept m_result m_resultKept m_trace m_traceKept m_jobImage m_resultImage m_traceImage) (some (.int o.1)) := by
  refine std_i (own := RX11) (by decide +kernel) rfl (Nat.le_of_ble_eq_true rfl) ?_
  intro p e s m args below meth c Q X ret H locs hP hS ls hl
  have hx := X.1
  have hb := X.2.1
  have hl : lv_has ls 6 [(0, .ref (q 0)), (1, .int p0), (2, .int p1), (3, .int p2), (4, .int p3), (5, .int p4)] := hl
  have ret : ∀ {H : Heap} {locs : List Loc} {pc : Nat} {ls : Array Slot} {v : Int32} {m_thrown : Int32} {m_x : Int64} {m_y : Int64} {m_z : Int64} {m_first : Int64} {m_second : Int64} {m_aside : Int32}, some (v, m_thrown, m_x, m_y, m_z, m_first, m_second, m_aside) = some o → WP g A (wM g q m_thrown m_length m_at m_fault m_toldWords m_orders m_value m_hasUnit m_places m_clocks m_held m_x m_y m_z m_first m_second m_aside m_jobs m_jobsImage m_clocksImage m_heldImage m_hasImage m_tape m_read m_order m_width m_guard m_points m_stages m_gain m_undo m_near m_quarter m_ln m_angle m_shift m_digit m_refused m_job m_jobKept m_result m_resultKept m_trace m_traceKept m_jobImage m_resultImage m_traceImage) H → va_S A s.heap H locs → decode cX11_value pc = .ok (.ireturn, 1) → W p l e rm_X11_value s m args below meth c H locs 0 0 Q (F0 m pc ls [.int v]) := by
    intro H locs pc ls v m_thrown m_x m_y m_z m_first m_second m_aside h hP hS hd
    cases h
    exact ret hP hS hd
  have b40 : ∀ (m_thrown : Int32) (m_x : Int64) (m_y : Int64) (m_z : Int64) (m_first : Int64) (m_second : Int64) (m_aside : Int32) (H : Heap) (locs : List Loc) (ls : Array Slot), f_X11_value_b40  m_hasUnit m_width m_guard m_points m_stages m_undo m_near m_quarter m_ln m_angle m_shift m_digit  m_thrown m_x m_y m_z m_first m_second m_aside = some o → WP g A (wM g q m_thrown m_length m_at m_fault m_toldWords m_orders m_value m_hasUnit m_places m_clocks m_held m_x m_y m_z m_first m_second m_aside m_jobs m_jobsImage m_clocksImage m_heldImage m_hasImage m_tape m_read m_order m_width m_guard m_points m_stages m_gain m_undo m_near m_quarter m_ln m_angle m_shift m_digit m_refused m_job m_jobKept m_result m_resultKept m_trace m_traceKept m_jobImage m_resultImage m_traceImage) H → va_S A s.heap H locs → lv_has ls 6 [] → W p l e rm_X11_value s m args below meth c H locs 0 0 Q (F0 m 40 ls []) := by
    intro  m_thrown m_x m_y m_z m_first m_second m_aside H locs ls h hP hS hl
    unfold f_X11_value_b40 at h
    refine lv_ldcw (v := (-2147483648)) hx hb X.2.2.2.1 (X.2.2.2.2.1 _ wd_6_176) dX11_value_40 ?_
    exact ret h hP hS dX11_value_43
  unfold f_X11_value at h
  refine lv_aload_n hx hb dX11_value_0 rfl (lv_at hl 0 rfl) ?_
  refine lv_iconst (v := 0) hx hb dX11_value_1 rfl ?_
  refine pf_X11_5_M_0 (v0 := (0 : Int32)) X hP hS dX11_value_2 (fun H locs hP hS => ?_)
  refine lv_aload_n hx hb dX11_value_5 rfl (lv_at hl 0 rfl) ?_
  refine lv_iload_n hx hb dX11_value_6 rfl (lv_at hl 1 rfl) ?_
  obtain ⟨o1, hco1, h⟩ := bd_of h
  refine kV (rest := []) X dX11_value_7 wd_6_195 mw_X11_isKind wd_6_197 wp_8_2 hP (k0 := 0) rfl rfl rfl hS (fun _ z => z) (c_X11_isKind hco1) rfl hl.1 rfl (Nat.le_of_ble_eq_true rfl) rfl rfl ⟨Nat.le_of_ble_eq_true rfl, Nat.le_of_ble_eq_true rfl⟩ (fun H locs hP _ _ hS => ?_)
  refine W.eq (g2 := F0 m 10 ls [.int (bI o1)]) rfl ?_
  refine rb_eq (tgt := 40) hx hb dX11_value_10 rfl (fun c10 => ?_) (fun c10 => ?_)
  · have h := br_n c10 h
    exact b40   (0 : Int32) m_x m_y m_z m_first m_second m_aside _ _ _ h hP hS (lv_sub hl [] rfl)
  · have h := br_p c10 h
    refine lv_iload hx hb dX11_value_13 (lv_at hl 5 rfl) ?_
    refine lv_i2l hx hb dX11_value_15 rfl ?_
    refine lv_lconst (v := 0) hx hb dX11_value_16 rfl ?_
    refine lv_lconst (v := 1) hx hb dX11_value_17 rfl ?_
    obtain ⟨o2, hco2, h⟩ := bd_of h
    refine kS (rest := []) X dX11_value_18 wd_5_153 mw_X11_isIn wd_5_154 hP hS (fun _ z => z) (c_X11_isIn hco2) rfl hl.1 rfl (Nat.le_of_ble_eq_true rfl) rfl rfl ⟨Nat.le_of_ble_eq_true rfl, Nat.le_of_ble_eq_true rfl⟩ (fun H locs hP _ _ hS => ?_)
    refine W.eq (g2 := F0 m 21 ls [.int (bI o2)]) rfl ?_
    refine rb_eq (tgt := 40) hx hb dX11_value_21 rfl (fun c21 => ?_) (fun c21 => ?_)
    · have h := br_n c21 h
      exact b40   (0 : Int32) m_x m_y m_z m_first m_second m_aside _ _ _ h hP hS (lv_sub hl [] rfl)
    · have h := br_p c21 h
      refine lv_aload_n hx hb dX11_value_24 rfl (lv_at hl 0 rfl) ?_
      refine lv_iconst (v := 0) hx hb dX11_value_25 rfl ?_
      refine lv_iload_n hx hb dX11_value_26 rfl (lv_at hl 1 rfl) ?_
      refine lv_iload_n hx hb dX11_value_27 rfl (lv_at hl 2 rfl) ?_
      refine lv_i2l hx hb dX11_value_28 rfl ?_
      refine lv_iload_n hx hb dX11_value_29 rfl (lv_at hl 3 rfl) ?_
      refine lv_i2l hx hb dX11_value_30 rfl ?_
      refine lv_iload hx hb dX11_value_31 (lv_at hl 4 rfl) ?_
      refine lv_i2l hx hb dX11_value_33 rfl ?_
      obtain ⟨o3, hco3, h⟩ := bd_of h
      refine kV (rest := []) X dX11_value_34 wd_6_200 mw_X11_comes wd_6_202 wp_8_3 hP (k0 := 0) rfl rfl rfl hS (fun _ z => z) (c_X11_comes hco3) rfl hl.1 rfl (Nat.le_of_ble_eq_true rfl) rfl rfl ⟨Nat.le_of_ble_eq_true rfl, Nat.le_of_ble_eq_true rfl⟩ (fun H locs hP _ _ hS => ?_)
      refine W.eq (g2 := F0 m 37 ls [.int (bI o3.1)]) rfl ?_
      refine rb_ne (tgt := 44) hx hb dX11_value_37 rfl (fun c37 => ?_) (fun c37 => ?_)
      · have h := br_p c37 h
        refine lv_iload hx hb dX11_value_44 (lv_at hl 5 rfl) ?_
        refine jx1 h (P := fun (v4 : Int64) => ∀ ls : Array Slot, lv_has ls 6 [] → W p l e rm_X11_value s m args below meth c H locs 0 0 Q (F0 m 60 ls [.long v4])) ?_ ?_
        · intro v4 h ls hl
          refine lv_l2i hx hb dX11_value_60 rfl ?_
          exact ret h hP hS dX11_value_61
        · intro J h
          refine lv_if_ne (tgt := 56) hx hb dX11_value_46 rfl (fun c46 => ?_) (fun c46 => ?_)
          · refine lv_aload_n hx hb dX11_value_56 rfl (lv_at hl 0 rfl) ?_
            refine gf_X11_328_M_0 X hP dX11_value_57 ?_
            exact J _ (lt_in c46 h) ls (lv_sub hl [] rfl)
          · refine lv_aload_n hx hb dX11_value_49 rfl (lv_at hl 0 rfl) ?_
            refine gf_X11_324_M_0 X hP dX11_value_50 ?_
            refine lv_goto (tgt := 60) hx hb dX11_value_53 rfl ?_
            exact J _ (lt_ip c46 h) ls (lv_sub hl [] rfl)
      · have h := br_n c37 h
        exact b40   (0 : Int32) o3.2.1 o3.2.2.1 o3.2.2.2.1 o3.2.2.2.2.1 o3.2.2.2.2.2.1 o3.2.2.2.2.2.2 _ _ _ h hP hS (lv_sub hl [] rfl)
abbrev rm_X11_finest : Room := { frames := 4, cells := 0, slots := 0, locals := 111 }
set_option maxRecDepth 100000 in
set_option maxHeartbeats 4000000 in
theorem c_X11_finest {g : gT} {l : Launch} {A : Nat → Prop} {q : Nat → Nat} {m_thrown : Int32} {m_length : Int32} {m_at : Int32} {m_fault : Int32} {m_toldWords : Int32} {m_orders : Int32} {m_value : Int32} {m_hasUnit : Bool} {m_places : Int32} {m_clocks : Int32} {m_held : Bool} {m_x : Int64} {m_y : Int64} {m_z : Int64} {m_first : Int64} {m_second : Int64} {m_aside : Int32} {m_jobs : Int32} {m_jobsImage : Int32} {m_clocksImage : Int32} {m_heldImage : Bool} {m_hasImage : Bool} {m_tape : Nat → Int32} {m_read : Nat → Int32} {m_order : Nat → Int32} {m_width : Nat → Int32} {m_guard : Nat → Int32} {m_points : Nat → Int32} {m_stages : Nat → Int32} {m_gain : Nat → Int32} {m_undo : Nat → Int32} {m_near : Nat → Bool} {m_quarter : Nat → Int64} {m_ln : Nat → Int64} {m_angle : Nat → Int64} {m_shift : Nat → Int32} {m_digit : Nat → Int32} {m_refused : Nat → Int32} {m_job : Nat → Int32} {m_jobKept : Nat → Int32} {m_result : Nat → Int32} {m_resultKept : Nat → Int32} {m_trace : Nat → Int64} {m_traceKept : Nat → Int64} {m_jobImage : Nat → Int32} {m_resultImage : Nat → Int32} {m_traceImage : Nat → Int64} {p0 : Int32} {p1 : Int32} {p2 : Int32} {p3 : Int32} {p4 : Int32} {o : Int32 × Int32 × Int64 × Int64 × Int64 × Int64 × Int64 × Int32} (h : f_X11_finest p0 p1 p2 p3 p4 m_thrown m_hasUnit m_x m_y m_z m_first m_second m_aside m_width m_guard m_points m_stages m_undo m_near m_quarter m_ln m_angle m_shift m_digit = some o) : Std g l yX11_finest (.code yX11_finest cX11_finest 7 (some .int) :: gw) rm_X11_finest A [.ref (q 0), .int p0, .int p1, .int p2, .int p3, .int p4] (wM g q m_thrown m_length m_at m_fault m_toldWords m_orders m_value m_hasUnit m_places m_clocks m_held m_x m_y m_z m_first m_second m_aside m_jobs m_jobsImage m_clocksImage m_heldImage m_hasImage m_tape m_read m_order m_width m_guard m_points m_stages m_gain m_undo m_near m_quarter m_ln m_angle m_shift m_digit m_refused m_job m_jobKept m_result m_resultKept m_trace m_traceKept m_jobImage m_resultImage m_traceImage) (wM g q o.2.1 m_length m_at m_fault m_toldWords m_orders m_value m_hasUnit m_places m_clocks m_held o.2.2.1 o.2.2.2.1 o.2.2.2.2.1 o.2.2.2.2.2.1 o.2.2.2.2.2.2.1 o.2.2.2.2.2.2.2 m_jobs m_jobsImage m_clocksImage m_heldImage m_hasImage m_tape m_read m_order m_width m_guard m_points m_stages m_gain m_undo m_near m_quarter m_ln m_angle m_shift m_digit m_refused m_job m_jobKept m_result m_resultKept m_trace m_traceKept m_jobImage m_resultImage m_traceImage) (some (.int o.1)) := by
  refine std_i (own := RX11) (by decide +kernel) rfl (Nat.le_of_ble_eq_true rfl) ?_
  intro p e s m args below meth c Q X ret H locs hP hS ls hl
  have hx := X.1
  have hb := X.2.1
  have hl : lv_has ls 7 [(0, .ref (q 0)), (1, .int p0), (2, .int p1), (3, .int p2), (4, .int p3), (5, .int p4)] := hl
  have ret : ∀ {H : Heap} {locs : List Loc} {pc : Nat} {ls : Array Slot} {v : Int32} {m_thrown : Int32} {m_x : Int64} {m_y : Int64} {m_z : Int64} {m_first : Int64} {m_second : Int64} {m_aside : Int32}, some (v, m_thrown, m_x, m_y, m_z, m_first, m_second, m_aside) = some o → WP g A (wM g q m_thrown m_length m_at m_fault m_toldWords m_orders m_value m_hasUnit m_places m_clocks m_held m_x m_y m_z m_first m_second m_aside m_jobs m_jobsImage m_clocksImage m_heldImage m_hasImage m_tape m_read m_order m_width m_guard m_points m_stages m_gain m_undo m_near m_quarter m_ln m_angle m_shift m_digit m_refused m_job m_jobKept m_result m_resultKept m_trace m_traceKept m_jobImage m_resultImage m_traceImage) H → va_S A s.heap H locs → decode cX11_finest pc = .ok (.ireturn, 1) → W p l e rm_X11_finest s m args below meth c H locs 0 0 Q (F0 m pc ls [.int v]) := by
    intro H locs pc ls v m_thrown m_x m_y m_z m_first m_second m_aside h hP hS hd
    cases h
    exact ret hP hS hd
  have b40 : ∀ (m_thrown : Int32) (m_x : Int64) (m_y : Int64) (m_z : Int64) (m_first : Int64) (m_second : Int64) (m_aside : Int32) (H : Heap) (locs : List Loc) (ls : Array Slot), f_X11_finest_b40  m_hasUnit m_width m_guard m_points m_stages m_undo m_near m_quarter m_ln m_angle m_shift m_digit  m_thrown m_x m_y m_z m_first m_second m_aside = some o → WP g A (wM g q m_thrown m_length m_at m_fault m_toldWords m_orders m_value m_hasUnit m_places m_clocks m_held m_x m_y m_z m_first m_second m_aside m_jobs m_jobsImage m_clocksImage m_heldImage m_hasImage m_tape m_read m_order m_width m_guard m_points m_stages m_gain m_undo m_near m_quarter m_ln m_angle m_shift m_digit m_refused m_job m_jobKept m_result m_resultKept m_trace m_traceKept m_jobImage m_resultImage m_traceImage) H → va_S A s.heap H locs → lv_has ls 7 [] → W p l e rm_X11_finest s m args below meth c H locs 0 0 Q (F0 m 40 ls []) := by
    intro  m_thrown m_x m_y m_z m_first m_second m_aside H locs ls h hP hS hl
    unfold f_X11_finest_b40 at h
    refine lv_ldcw (v := (-2147483648)) hx hb X.2.2.2.1 (X.2.2.2.2.1 _ wd_6_176) dX11_finest_40 ?_
    exact ret h hP hS dX11_finest_43
  unfold f_X11_finest at h
  refine lv_aload_n hx hb dX11_finest_0 rfl (lv_at hl 0 rfl) ?_
  refine lv_iconst (v := 0) hx hb dX11_finest_1 rfl ?_
  refine pf_X11_5_M_0 (v0 := (0 : Int32)) X hP hS dX11_finest_2 (fun H locs hP hS => ?_)
  refine lv_aload_n hx hb dX11_finest_5 rfl (lv_at hl 0 rfl) ?_
  refine lv_iload_n hx hb dX11_finest_6 rfl (lv_at hl 1 rfl) ?_
  obtain ⟨o1, hco1, h⟩ := bd_of h
  refine kV (rest := []) X dX11_finest_7 wd_6_195 mw_X11_isKind wd_6_197 wp_8_2 hP (k0 := 0) rfl rfl rfl hS (fun _ z => z) (c_X11_isKind hco1) rfl hl.1 rfl (Nat.le_of_ble_eq_true rfl) rfl rfl ⟨Nat.le_of_ble_eq_true rfl, Nat.le_of_ble_eq_true rfl⟩ (fun H locs hP _ _ hS => ?_)
  refine W.eq (g2 := F0 m 10 ls [.int (bI o1)]) rfl ?_
  refine rb_eq (tgt := 40) hx hb dX11_finest_10 rfl (fun c10 => ?_) (fun c10 => ?_)
  · have h := br_n c10 h
    exact b40   (0 : Int32) m_x m_y m_z m_first m_second m_aside _ _ _ h hP hS (lv_sub hl [] rfl)
  · have h := br_p c10 h
    refine lv_iload hx hb dX11_finest_13 (lv_at hl 5 rfl) ?_
    refine lv_i2l hx hb dX11_finest_15 rfl ?_
    refine lv_lconst (v := 0) hx hb dX11_finest_16 rfl ?_
    refine lv_lconst (v := 1) hx hb dX11_finest_17 rfl ?_
    obtain ⟨o2, hco2, h⟩ := bd_of h
    refine kS (rest := []) X dX11_finest_18 wd_5_153 mw_X11_isIn wd_5_154 hP hS (fun _ z => z) (c_X11_isIn hco2) rfl hl.1 rfl (Nat.le_of_ble_eq_true rfl) rfl rfl ⟨Nat.le_of_ble_eq_true rfl, Nat.le_of_ble_eq_true rfl⟩ (fun H locs hP _ _ hS => ?_)
    refine W.eq (g2 := F0 m 21 ls [.int (bI o2)]) rfl ?_
    refine rb_eq (tgt := 40) hx hb dX11_finest_21 rfl (fun c21 => ?_) (fun c21 => ?_)
    · have h := br_n c21 h
      exact b40   (0 : Int32) m_x m_y m_z m_first m_second m_aside _ _ _ h hP hS (lv_sub hl [] rfl)
    · have h := br_p c21 h
      refine lv_aload_n hx hb dX11_finest_24 rfl (lv_at hl 0 rfl) ?_
      refine lv_iconst (v := 0) hx hb dX11_finest_25 rfl ?_
      refine lv_iload_n hx hb dX11_finest_26 rfl (lv_at hl 1 rfl) ?_
      refine lv_iload_n hx hb dX11_finest_27 rfl (lv_at hl 2 rfl) ?_
      refine lv_i2l hx hb dX11_finest_28 rfl ?_
      refine lv_iload_n hx hb dX11_finest_29 rfl (lv_at hl 3 rfl) ?_
      refine lv_i2l hx hb dX11_finest_30 rfl ?_
      refine lv_iload hx hb dX11_finest_31 (lv_at hl 4 rfl) ?_
      refine lv_i2l hx hb dX11_finest_33 rfl ?_
      obtain ⟨o3, hco3, h⟩ := bd_of h
      refine kV (rest := []) X dX11_finest_34 wd_6_204 mw_X11_isGood wd_6_206 wp_8_4 hP (k0 := 0) rfl rfl rfl hS (fun _ z => z) (c_X11_isGood hco3) rfl hl.1 rfl (Nat.le_of_ble_eq_true rfl) rfl rfl ⟨Nat.le_of_ble_eq_true rfl, Nat.le_of_ble_eq_true rfl⟩ (fun H locs hP _ _ hS => ?_)
      refine W.eq (g2 := F0 m 37 ls [.int (bI o3)]) rfl ?_
      refine rb_ne (tgt := 44) hx hb dX11_finest_37 rfl (fun c37 => ?_) (fun c37 => ?_)
      · have h := br_p c37 h
        refine lv_bipush (v := 22) hx hb dX11_finest_44 rfl ?_
        refine lv_aload_n hx hb dX11_finest_46 rfl (lv_at hl 0 rfl) ?_
        refine gf_X11_192_M_0 X hP dX11_finest_47 ?_
        refine lv_iconst (v := 0) hx hb dX11_finest_50 rfl ?_
        obtain ⟨hi51, h⟩ := gv_of h
        refine al_M_4 X hP hi51 dX11_finest_51 ?_
        refine lv_isub hx hb dX11_finest_52 ?_
        refine lv_topi (fun v4 ev4 => ?_)
        have h := lt_at ev4 h
        refine lv_istore (lv' := [(6, .int v4), (0, .ref (q 0)), (1, .int p0), (2, .int p1), (3, .int p2), (4, .int p3), (5, .int p4)]) hx hb dX11_finest_53 hl (by decide) rfl (fun ls hl => ?_)
        refine lv_aload_n hx hb dX11_finest_55 rfl (lv_at hl 1 rfl) ?_
        refine lv_iconst (v := 1) hx hb dX11_finest_56 rfl ?_
        refine lv_iload_n hx hb dX11_finest_57 rfl (lv_at hl 2 rfl) ?_
        refine lv_iload_n hx hb dX11_finest_58 rfl (lv_at hl 3 rfl) ?_
        refine lv_i2l hx hb dX11_finest_59 rfl ?_
        refine lv_iload hx hb dX11_finest_60 (lv_at hl 0 rfl) ?_
        refine lv_lshl hx hb dX11_finest_62 rfl ?_
        refine lv_iload_n hx hb dX11_finest_63 rfl (lv_at hl 4 rfl) ?_
        refine lv_i2l hx hb dX11_finest_64 rfl ?_
        refine lv_iload hx hb dX11_finest_65 (lv_at hl 0 rfl) ?_
        refine lv_lshl hx hb dX11_finest_67 rfl ?_
        refine lv_iload hx hb dX11_finest_68 (lv_at hl 5 rfl) ?_
        refine lv_i2l hx hb dX11_finest_70 rfl ?_
        refine lv_iload hx hb dX11_finest_71 (lv_at hl 0 rfl) ?_
        refine lv_lshl hx hb dX11_finest_73 rfl ?_
        obtain ⟨o5, hco5, h⟩ := bd_of h
        refine kV (rest := []) X dX11_finest_74 wd_6_200 mw_X11_comes wd_6_202 wp_8_3 hP (k0 := 0) rfl rfl rfl hS (fun _ z => z) (c_X11_comes hco5) rfl hl.1 rfl (Nat.le_of_ble_eq_true rfl) rfl rfl ⟨Nat.le_of_ble_eq_true rfl, Nat.le_of_ble_eq_true rfl⟩ (fun H locs hP _ _ hS => ?_)
        refine W.eq (g2 := F0 m 77 ls [.int (bI o5.1)]) rfl ?_
        refine rb_ne (tgt := 84) hx hb dX11_finest_77 rfl (fun c77 => ?_) (fun c77 => ?_)
        · have h := br_p c77 h
          refine lv_iload hx hb dX11_finest_84 (lv_at hl 6 rfl) ?_
          refine jx1 h (P := fun (v6 : Int64) => ∀ ls : Array Slot, lv_has ls 7 [] → W p l e rm_X11_finest s m args below meth c H locs 0 0 Q (F0 m 100 ls [.long v6])) ?_ ?_
          · intro v6 h ls hl
            refine lv_l2i hx hb dX11_finest_100 rfl ?_
            exact ret h hP hS dX11_finest_101
          · intro J h
            refine lv_if_ne (tgt := 96) hx hb dX11_finest_86 rfl (fun c86 => ?_) (fun c86 => ?_)
            · refine lv_aload_n hx hb dX11_finest_96 rfl (lv_at hl 1 rfl) ?_
              refine gf_X11_328_M_0 X hP dX11_finest_97 ?_
              exact J _ (lt_in c86 h) ls (lv_sub hl [] rfl)
            · refine lv_aload_n hx hb dX11_finest_89 rfl (lv_at hl 1 rfl) ?_
              refine gf_X11_324_M_0 X hP dX11_finest_90 ?_
              refine lv_goto (tgt := 100) hx hb dX11_finest_93 rfl ?_
              exact J _ (lt_ip c86 h) ls (lv_sub hl [] rfl)
        · have h := br_n c77 h
          refine lv_ldcw (v := (-2147483648)) hx hb X.2.2.2.1 (X.2.2.2.2.1 _ wd_6_176) dX11_finest_80 ?_
          exact ret h hP hS dX11_finest_83
      · have h := br_n c37 h
        exact b40   (0 : Int32) m_x m_y m_z m_first m_second m_aside _ _ _ h hP hS (lv_sub hl [] rfl)
abbrev rm_X11_apart : Room := { frames := 4, cells := 0, slots := 0, locals := 111 }
set_option maxRecDepth 100000 in
set_option maxHeartbeats 4000000 in
theorem c_X11_apart {g : gT} {l : Launch} {A : Nat → Prop} {q : Nat → Nat} {m_thrown : Int32} {m_length : Int32} {m_at : Int32} {m_fault : Int32} {m_toldWords : Int32} {m_orders : Int32} {m_value : Int32} {m_hasUnit : Bool} {m_places : Int32} {m_clocks : Int32} {m_held : Bool} {m_x : Int64} {m_y : Int64} {m_z : Int64} {m_first : Int64} {m_second : Int64} {m_aside : Int32} {m_jobs : Int32} {m_jobsImage : Int32} {m_clocksImage : Int32} {m_heldImage : Bool} {m_hasImage : Bool} {m_tape : Nat → Int32} {m_read : Nat → Int32} {m_order : Nat → Int32} {m_width : Nat → Int32} {m_guard : Nat → Int32} {m_points : Nat → Int32} {m_stages : Nat → Int32} {m_gain : Nat → Int32} {m_undo : Nat → Int32} {m_near : Nat → Bool} {m_quarter : Nat → Int64} {m_ln : Nat → Int64} {m_angle : Nat → Int64} {m_shift : Nat → Int32} {m_digit : Nat → Int32} {m_refused : Nat → Int32} {m_job : Nat → Int32} {m_jobKept : Nat → Int32} {m_result : Nat → Int32} {m_resultKept : Nat → Int32} {m_trace : Nat → Int64} {m_traceKept : Nat → Int64} {m_jobImage : Nat → Int32} {m_resultImage : Nat → Int32} {m_traceImage : Nat → Int64} {p0 : Int32} {p1 : Int32} {p2 : Int32} {p3 : Int32} {p4 : Int32} {o : Int64 × Int32 × Int64 × Int64 × Int64 × Int64 × Int64 × Int32} (h : f_X11_apart p0 p1 p2 p3 p4 m_thrown m_hasUnit m_x m_y m_z m_first m_second m_aside m_width m_guard m_points m_stages m_undo m_near m_quarter m_ln m_angle m_shift m_digit = some o) : Std g l yX11_apart (.code yX11_apart cX11_apart 9 (some .long) :: gw) rm_X11_apart A [.ref (q 0), .int p0, .int p1, .int p2, .int p3, .int p4] (wM g q m_thrown m_length m_at m_fault m_toldWords m_orders m_value m_hasUnit m_places m_clocks m_held m_x m_y m_z m_first m_second m_aside m_jobs m_jobsImage m_clocksImage m_heldImage m_hasImage m_tape m_read m_order m_width m_guard m_points m_stages m_gain m_undo m_near m_quarter m_ln m_angle m_shift m_digit m_refused m_job m_jobKept m_result m_resultKept m_trace m_traceKept m_jobImage m_resultImage m_traceImage) (wM g q o.2.1 m_length m_at m_fault m_toldWords m_orders m_value m_hasUnit m_places m_clocks m_held o.2.2.1 o.2.2.2.1 o.2.2.2.2.1 o.2.2.2.2.2.1 o.2.2.2.2.2.2.1 o.2.2.2.2.2.2.2 m_jobs m_jobsImage m_clocksImage m_heldImage m_hasImage m_tape m_read m_order m_width m_guard m_points m_stages m_gain m_undo m_near m_quarter m_ln m_angle m_shift m_digit m_refused m_job m_jobKept m_result m_resultKept m_trace m_traceKept m_jobImage m_resultImage m_traceImage) (some (.long o.1)) := by
  refine std_l (own := RX11) (by decide +kernel) rfl (Nat.le_of_ble_eq_true rfl) ?_
  intro p e s m args below meth c Q X ret H locs hP hS ls hl
  have hx := X.1
  have hb := X.2.1
  have hl : lv_has ls 9 [(0, .ref (q 0)), (1, .int p0), (2, .int p1), (3, .int p2), (4, .int p3), (5, .int p4)] := hl
  have ret : ∀ {H : Heap} {locs : List Loc} {pc : Nat} {ls : Array Slot} {v : Int64} {m_thrown : Int32} {m_x : Int64} {m_y : Int64} {m_z : Int64} {m_first : Int64} {m_second : Int64} {m_aside : Int32}, some (v, m_thrown, m_x, m_y, m_z, m_first, m_second, m_aside) = some o → WP g A (wM g q m_thrown m_length m_at m_fault m_toldWords m_orders m_value m_hasUnit m_places m_clocks m_held m_x m_y m_z m_first m_second m_aside m_jobs m_jobsImage m_clocksImage m_heldImage m_hasImage m_tape m_read m_order m_width m_guard m_points m_stages m_gain m_undo m_near m_quarter m_ln m_angle m_shift m_digit m_refused m_job m_jobKept m_result m_resultKept m_trace m_traceKept m_jobImage m_resultImage m_traceImage) H → va_S A s.heap H locs → decode cX11_apart pc = .ok (.lreturn, 1) → W p l e rm_X11_apart s m args below meth c H locs 0 0 Q (F0 m pc ls [.long v]) := by
    intro H locs pc ls v m_thrown m_x m_y m_z m_first m_second m_aside h hP hS hd
    cases h
    exact ret hP hS hd
  have b40 : ∀ (m_thrown : Int32) (m_x : Int64) (m_y : Int64) (m_z : Int64) (m_first : Int64) (m_second : Int64) (m_aside : Int32) (H : Heap) (locs : List Loc) (ls : Array Slot), f_X11_apart_b40  m_hasUnit m_width m_guard m_points m_stages m_undo m_near m_quarter m_ln m_angle m_shift m_digit  m_thrown m_x m_y m_z m_first m_second m_aside = some o → WP g A (wM g q m_thrown m_length m_at m_fault m_toldWords m_orders m_value m_hasUnit m_places m_clocks m_held m_x m_y m_z m_first m_second m_aside m_jobs m_jobsImage m_clocksImage m_heldImage m_hasImage m_tape m_read m_order m_width m_guard m_points m_stages m_gain m_undo m_near m_quarter m_ln m_angle m_shift m_digit m_refused m_job m_jobKept m_result m_resultKept m_trace m_traceKept m_jobImage m_resultImage m_traceImage) H → va_S A s.heap H locs → lv_has ls 9 [] → W p l e rm_X11_apart s m args below meth c H locs 0 0 Q (F0 m 40 ls []) := by
    intro  m_thrown m_x m_y m_z m_first m_second m_aside H locs ls h hP hS hl
    unfold f_X11_apart_b40 at h
    refine lv_ldc2 (v := (-2147483648)) hx hb X.2.2.2.1 (X.2.2.2.2.1 _ wd_7_22) dX11_apart_40 ?_
    exact ret h hP hS dX11_apart_43
  unfold f_X11_apart at h
  refine lv_aload_n hx hb dX11_apart_0 rfl (lv_at hl 0 rfl) ?_
  refine lv_iconst (v := 0) hx hb dX11_apart_1 rfl ?_
  refine pf_X11_5_M_0 (v0 := (0 : Int32)) X hP hS dX11_apart_2 (fun H locs hP hS => ?_)
  refine lv_aload_n hx hb dX11_apart_5 rfl (lv_at hl 0 rfl) ?_
  refine lv_iload_n hx hb dX11_apart_6 rfl (lv_at hl 1 rfl) ?_
  obtain ⟨o1, hco1, h⟩ := bd_of h
  refine kV (rest := []) X dX11_apart_7 wd_6_195 mw_X11_isKind wd_6_197 wp_8_2 hP (k0 := 0) rfl rfl rfl hS (fun _ z => z) (c_X11_isKind hco1) rfl hl.1 rfl (Nat.le_of_ble_eq_true rfl) rfl rfl ⟨Nat.le_of_ble_eq_true rfl, Nat.le_of_ble_eq_true rfl⟩ (fun H locs hP _ _ hS => ?_)
  refine W.eq (g2 := F0 m 10 ls [.int (bI o1)]) rfl ?_
  refine rb_eq (tgt := 40) hx hb dX11_apart_10 rfl (fun c10 => ?_) (fun c10 => ?_)
  · have h := br_n c10 h
    exact b40   (0 : Int32) m_x m_y m_z m_first m_second m_aside _ _ _ h hP hS (lv_sub hl [] rfl)
  · have h := br_p c10 h
    refine lv_iload hx hb dX11_apart_13 (lv_at hl 5 rfl) ?_
    refine lv_i2l hx hb dX11_apart_15 rfl ?_
    refine lv_lconst (v := 0) hx hb dX11_apart_16 rfl ?_
    refine lv_lconst (v := 1) hx hb dX11_apart_17 rfl ?_
    obtain ⟨o2, hco2, h⟩ := bd_of h
    refine kS (rest := []) X dX11_apart_18 wd_5_153 mw_X11_isIn wd_5_154 hP hS (fun _ z => z) (c_X11_isIn hco2) rfl hl.1 rfl (Nat.le_of_ble_eq_true rfl) rfl rfl ⟨Nat.le_of_ble_eq_true rfl, Nat.le_of_ble_eq_true rfl⟩ (fun H locs hP _ _ hS => ?_)
    refine W.eq (g2 := F0 m 21 ls [.int (bI o2)]) rfl ?_
    refine rb_eq (tgt := 40) hx hb dX11_apart_21 rfl (fun c21 => ?_) (fun c21 => ?_)
    · have h := br_n c21 h
      exact b40   (0 : Int32) m_x m_y m_z m_first m_second m_aside _ _ _ h hP hS (lv_sub hl [] rfl)
    · have h := br_p c21 h
      refine lv_aload_n hx hb dX11_apart_24 rfl (lv_at hl 0 rfl) ?_
      refine lv_iconst (v := 0) hx hb dX11_apart_25 rfl ?_
      refine lv_iload_n hx hb dX11_apart_26 rfl (lv_at hl 1 rfl) ?_
      refine lv_iload_n hx hb dX11_apart_27 rfl (lv_at hl 2 rfl) ?_
      refine lv_i2l hx hb dX11_apart_28 rfl ?_
      refine lv_iload_n hx hb dX11_apart_29 rfl (lv_at hl 3 rfl) ?_
      refine lv_i2l hx hb dX11_apart_30 rfl ?_
      refine lv_iload hx hb dX11_apart_31 (lv_at hl 4 rfl) ?_
      refine lv_i2l hx hb dX11_apart_33 rfl ?_
      obtain ⟨o3, hco3, h⟩ := bd_of h
      refine kV (rest := []) X dX11_apart_34 wd_6_200 mw_X11_comes wd_6_202 wp_8_3 hP (k0 := 0) rfl rfl rfl hS (fun _ z => z) (c_X11_comes hco3) rfl hl.1 rfl (Nat.le_of_ble_eq_true rfl) rfl rfl ⟨Nat.le_of_ble_eq_true rfl, Nat.le_of_ble_eq_true rfl⟩ (fun H locs hP _ _ hS => ?_)
      refine W.eq (g2 := F0 m 37 ls [.int (bI o3.1)]) rfl ?_
      refine rb_ne (tgt := 44) hx hb dX11_apart_37 rfl (fun c37 => ?_) (fun c37 => ?_)
      · have h := br_p c37 h
        refine lv_bipush (v := 22) hx hb dX11_apart_44 rfl ?_
        refine lv_aload_n hx hb dX11_apart_46 rfl (lv_at hl 0 rfl) ?_
        refine gf_X11_192_M_0 X hP dX11_apart_47 ?_
        refine lv_iconst (v := 0) hx hb dX11_apart_50 rfl ?_
        obtain ⟨hi51, h⟩ := gv_of h
        refine al_M_4 X hP hi51 dX11_apart_51 ?_
        refine lv_isub hx hb dX11_apart_52 ?_
        refine lv_topi (fun v4 ev4 => ?_)
        have h := lt_at ev4 h
        refine lv_istore (lv' := [(6, .int v4), (0, .ref (q 0)), (1, .int p0), (2, .int p1), (3, .int p2), (4, .int p3), (5, .int p4)]) hx hb dX11_apart_53 hl (by decide) rfl (fun ls hl => ?_)
        refine lv_iload hx hb dX11_apart_55 (lv_at hl 6 rfl) ?_
        refine jx1 h (P := fun (v5 : Int64) => ∀ ls : Array Slot, lv_has ls 9 [(0, .ref (q 0)), (1, .int p0), (2, .int p1), (3, .int p2), (4, .int p3), (5, .int p4), (6, .int v4)] → W p l e rm_X11_apart s m args below meth c H locs 0 0 Q (F0 m 71 ls [.long v5])) ?_ ?_
        · intro v5 h ls hl
          refine lv_iload hx hb dX11_apart_71 (lv_at hl 6 rfl) ?_
          refine lv_lshl hx hb dX11_apart_73 rfl ?_
          refine lv_topl (fun v6 ev6 => ?_)
          have h := lt_at ev6 h
          refine lv_lstore (lv' := [(7, .long v6), (0, .ref (q 0)), (1, .int p0), (2, .int p1), (3, .int p2), (4, .int p3), (5, .int p4), (6, .int v4)]) hx hb dX11_apart_74 hl (by decide) rfl (fun ls hl => ?_)
          refine lv_aload_n hx hb dX11_apart_76 rfl (lv_at hl 1 rfl) ?_
          refine lv_iconst (v := 1) hx hb dX11_apart_77 rfl ?_
          refine lv_iload_n hx hb dX11_apart_78 rfl (lv_at hl 2 rfl) ?_
          refine lv_iload_n hx hb dX11_apart_79 rfl (lv_at hl 3 rfl) ?_
          refine lv_i2l hx hb dX11_apart_80 rfl ?_
          refine lv_iload hx hb dX11_apart_81 (lv_at hl 7 rfl) ?_
          refine lv_lshl hx hb dX11_apart_83 rfl ?_
          refine lv_iload_n hx hb dX11_apart_84 rfl (lv_at hl 4 rfl) ?_
          refine lv_i2l hx hb dX11_apart_85 rfl ?_
          refine lv_iload hx hb dX11_apart_86 (lv_at hl 7 rfl) ?_
          refine lv_lshl hx hb dX11_apart_88 rfl ?_
          refine lv_iload hx hb dX11_apart_89 (lv_at hl 5 rfl) ?_
          refine lv_i2l hx hb dX11_apart_91 rfl ?_
          refine lv_iload hx hb dX11_apart_92 (lv_at hl 7 rfl) ?_
          refine lv_lshl hx hb dX11_apart_94 rfl ?_
          obtain ⟨o7, hco7, h⟩ := bd_of h
          refine kV (rest := []) X dX11_apart_95 wd_6_200 mw_X11_comes wd_6_202 wp_8_3 hP (k0 := 0) rfl rfl rfl hS (fun _ z => z) (c_X11_comes hco7) rfl hl.1 rfl (Nat.le_of_ble_eq_true rfl) rfl rfl ⟨Nat.le_of_ble_eq_true rfl, Nat.le_of_ble_eq_true rfl⟩ (fun H locs hP _ _ hS => ?_)
          refine W.eq (g2 := F0 m 98 ls [.int (bI o7.1)]) rfl ?_
          refine rb_ne (tgt := 105) hx hb dX11_apart_98 rfl (fun c98 => ?_) (fun c98 => ?_)
          · have h := br_p c98 h
            refine lv_lload hx hb dX11_apart_105 (lv_at hl 0 rfl) ?_
            refine lv_iload hx hb dX11_apart_107 (lv_at hl 6 rfl) ?_
            refine jx1 h (P := fun (v8 : Int64) => ∀ ls : Array Slot, lv_has ls 9 [] → W p l e rm_X11_apart s m args below meth c H locs 0 0 Q (F0 m 123 ls [.long v8, .long v6])) ?_ ?_
            · intro v8 h ls hl
              refine lv_lsub hx hb dX11_apart_123 ?_
              obtain ⟨o9, hco9, h⟩ := bd_of h
              refine kS (rest := []) X dX11_apart_124 wd_6_211 mw_J9_abs_067f4 wd_3_171 hP hS (fun _ z => z) (c_J9_abs_067f4 hco9) rfl hl.1 rfl (Nat.le_of_ble_eq_true rfl) rfl rfl ⟨Nat.le_of_ble_eq_true rfl, Nat.le_of_ble_eq_true rfl⟩ (fun H locs hP _ _ hS => ?_)
              refine W.eq (g2 := F0 m 127 ls [.long o9]) rfl ?_
              exact ret h hP hS dX11_apart_127
            · intro J h
              refine lv_if_ne (tgt := 119) hx hb dX11_apart_109 rfl (fun c109 => ?_) (fun c109 => ?_)
              · refine lv_aload_n hx hb dX11_apart_119 rfl (lv_at hl 1 rfl) ?_
                refine gf_X11_328_M_0 X hP dX11_apart_120 ?_
                exact J _ (lt_in c109 h) ls (lv_sub hl [] rfl)
              · refine lv_aload_n hx hb dX11_apart_112 rfl (lv_at hl 1 rfl) ?_
                refine gf_X11_324_M_0 X hP dX11_apart_113 ?_
                refine lv_goto (tgt := 123) hx hb dX11_apart_116 rfl ?_
                exact J _ (lt_ip c109 h) ls (lv_sub hl [] rfl)
          · have h := br_n c98 h
            refine lv_ldc2 (v := (-2147483648)) hx hb X.2.2.2.1 (X.2.2.2.2.1 _ wd_7_22) dX11_apart_101 ?_
            exact ret h hP hS dX11_apart_104
        · intro J h
          refine lv_if_ne (tgt := 67) hx hb dX11_apart_57 rfl (fun c57 => ?_) (fun c57 => ?_)
          · refine lv_aload_n hx hb dX11_apart_67 rfl (lv_at hl 1 rfl) ?_
            refine gf_X11_328_M_0 X hP dX11_apart_68 ?_
            exact J _ (lt_in c57 h) ls (lv_sub hl [1, 2, 3, 4, 5, 6, 0] rfl)
          · refine lv_aload_n hx hb dX11_apart_60 rfl (lv_at hl 1 rfl) ?_
            refine gf_X11_324_M_0 X hP dX11_apart_61 ?_
            refine lv_goto (tgt := 71) hx hb dX11_apart_64 rfl ?_
            exact J _ (lt_ip c57 h) ls (lv_sub hl [1, 2, 3, 4, 5, 6, 0] rfl)
      · have h := br_n c37 h
        exact b40   (0 : Int32) o3.2.1 o3.2.2.1 o3.2.2.2.1 o3.2.2.2.2.1 o3.2.2.2.2.2.1 o3.2.2.2.2.2.2 _ _ _ h hP hS (lv_sub hl [] rfl)
