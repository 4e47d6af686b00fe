abbrev rm_X11_comesIn : Room := { frames := 3, cells := 0, slots := 0, locals := 81 }
set_option maxRecDepth 100000 in
set_option maxHeartbeats 4000000 in
theorem c_X11_comesIn {g : gT} {l : Launch} {A : Nat → Prop} {q : Nat → Nat} {m_thrown : Int32} {m_length : Int32} {m_at : Int32} {m_fault : Int32} {m_toldWords : Int32} {m_orders : Int32} {m_value : Int32} {m_hasUnit : Bool} {m_places : Int32} {m_clocks : Int32} {m_held : Bool} {m_x : Int64} {m_y : Int64} {m_z : Int64} {m_first : Int64} {m_second : Int64} {m_aside : Int32} {m_jobs : Int32} {m_jobsImage : Int32} {m_clocksImage : Int32} {m_heldImage : Bool} {m_hasImage : Bool} {m_tape : Nat → Int32} {m_read : Nat → Int32} {m_order : Nat → Int32} {m_width : Nat → Int32} {m_guard : Nat → Int32} {m_points : Nat → Int32} {m_stages : Nat → Int32} {m_gain : Nat → Int32} {m_undo : Nat → Int32} {m_near : Nat → Bool} {m_quarter : Nat → Int64} {m_ln : Nat → Int64} {m_angle : Nat → Int64} {m_shift : Nat → Int32} {m_digit : Nat → Int32} {m_refused : Nat → Int32} {m_job : Nat → Int32} {m_jobKept : Nat → Int32} {m_result : Nat → Int32} {m_resultKept : Nat → Int32} {m_trace : Nat → Int64} {m_traceKept : Nat → Int64} {m_jobImage : Nat → Int32} {m_resultImage : Nat → Int32} {m_traceImage : Nat → Int64} {p0 : Int32} {o : Int64 × Int64 × Int64 × Int64 × Int64 × Int32 × (Nat → Int32) × (Nat → Int64)} (h : f_X11_comesIn p0 m_clocks m_x m_y m_z m_first m_second m_aside m_width m_guard m_points m_undo m_near m_quarter m_ln m_job m_result m_trace = some o) : Std g l yX11_comesIn (.code yX11_comesIn cX11_comesIn 5 none :: gw) rm_X11_comesIn A [.ref (q 0), .int p0] (wM g q m_thrown m_length m_at m_fault m_toldWords m_orders m_value m_hasUnit m_places m_clocks m_held m_x m_y m_z m_first m_second m_aside m_jobs m_jobsImage m_clocksImage m_heldImage m_hasImage m_tape m_read m_order m_width m_guard m_points m_stages m_gain m_undo m_near m_quarter m_ln m_angle m_shift m_digit m_refused m_job m_jobKept m_result m_resultKept m_trace m_traceKept m_jobImage m_resultImage m_traceImage) (wM g q m_thrown m_length m_at m_fault m_toldWords m_orders m_value m_hasUnit m_places m_clocks m_held o.1 o.2.1 o.2.2.1 o.2.2.2.1 o.2.2.2.2.1 o.2.2.2.2.2.1 m_jobs m_jobsImage m_clocksImage m_heldImage m_hasImage m_tape m_read m_order m_width m_guard m_points m_stages m_gain m_undo m_near m_quarter m_ln m_angle m_shift m_digit m_refused o.2.2.2.2.2.2.1 m_jobKept m_result m_resultKept o.2.2.2.2.2.2.2 m_traceKept m_jobImage m_resultImage m_traceImage) none := by
  refine std_v (own := RX11) (by decide +kernel) rfl (Nat.le_of_ble_eq_true rfl) ?_
  intro p e s m args below meth c Q X ret H locs hP hS ls hl
  have hx := X.1
  have hb := X.2.1
  have hl : lv_has ls 5 [(0, .ref (q 0)), (1, .int p0)] := hl
  have ret : ∀ {H : Heap} {locs : List Loc} {pc : Nat} {ls : Array Slot} {m_x : Int64} {m_y : Int64} {m_z : Int64} {m_first : Int64} {m_second : Int64} {m_aside : Int32} {m_job : Nat → Int32} {m_trace : Nat → Int64}, some (m_x, m_y, m_z, m_first, m_second, m_aside, m_job, m_trace) = some o → WP g A (wM g q m_thrown m_length m_at m_fault m_toldWords m_orders m_value m_hasUnit m_places m_clocks m_held m_x m_y m_z m_first m_second m_aside m_jobs m_jobsImage m_clocksImage m_heldImage m_hasImage m_tape m_read m_order m_width m_guard m_points m_stages m_gain m_undo m_near m_quarter m_ln m_angle m_shift m_digit m_refused m_job m_jobKept m_result m_resultKept m_trace m_traceKept m_jobImage m_resultImage m_traceImage) H → va_S A s.heap H locs → decode cX11_comesIn pc = .ok (.return_, 1) → W p l e rm_X11_comesIn s m args below meth c H locs 0 0 Q (F0 m pc ls []) := by
    intro H locs pc ls m_x m_y m_z m_first m_second m_aside m_job m_trace h hP hS hd
    cases h
    exact ret hP hS hd
  have b151 : ∀ (x1 : Int32) (t0 : Bool) (m_x : Int64) (m_y : Int64) (m_z : Int64) (m_first : Int64) (m_second : Int64) (m_aside : Int32) (m_job : Nat → Int32) (m_trace : Nat → Int64) (H : Heap) (locs : List Loc) (ls : Array Slot), f_X11_comesIn_b151  m_clocks m_width m_guard m_points m_undo m_near m_quarter m_ln m_result  x1 t0 m_x m_y m_z m_first m_second m_aside m_job m_trace = some o → WP g A (wM g q m_thrown m_length m_at m_fault m_toldWords m_orders m_value m_hasUnit m_places m_clocks m_held m_x m_y m_z m_first m_second m_aside m_jobs m_jobsImage m_clocksImage m_heldImage m_hasImage m_tape m_read m_order m_width m_guard m_points m_stages m_gain m_undo m_near m_quarter m_ln m_angle m_shift m_digit m_refused m_job m_jobKept m_result m_resultKept m_trace m_traceKept m_jobImage m_resultImage m_traceImage) H → va_S A s.heap H locs → lv_has ls 5 [(0, .ref (q 0)), (1, .int x1)] → W p l e rm_X11_comesIn s m args below meth c H locs 0 0 Q (F0 m 151 ls [.int (bI t0)]) := by
    intro  x1 t0 m_x m_y m_z m_first m_second m_aside m_job m_trace H locs ls h hP hS hl
    unfold f_X11_comesIn_b151 at h
    refine lv_istore_n (lv' := [(2, .int (bI t0)), (0, .ref (q 0)), (1, .int x1)]) hx hb dX11_comesIn_151 rfl hl (by decide) rfl (fun ls hl => ?_)
    refine lv_aload_n hx hb dX11_comesIn_152 rfl (lv_at hl 1 rfl) ?_
    refine gf_X11_226_M_0 X hP dX11_comesIn_153 ?_
    refine lv_bipush (v := 14) hx hb dX11_comesIn_156 rfl ?_
    refine lv_iload_n hx hb dX11_comesIn_158 rfl (lv_at hl 2 rfl) ?_
    refine lv_imul hx hb dX11_comesIn_159 ?_
    refine lv_iconst (v := 4) hx hb dX11_comesIn_160 rfl ?_
    refine lv_iadd hx hb dX11_comesIn_161 ?_
    refine lv_iload_n hx hb dX11_comesIn_162 rfl (lv_at hl 0 rfl) ?_
    refine jx1 h (P := fun (v1 : Int32) => ∀ ls : Array Slot, lv_has ls 5 [(0, .ref (q 0)), (1, .int x1), (2, .int (bI t0))] → W p l e rm_X11_comesIn s m args below meth c H locs 0 0 Q (F0 m 171 ls [.int v1, .int (((14 : Int32) * x1) + (4 : Int32)), .ref (q 17)])) ?_ ?_
    · intro v1 h ls hl
      obtain ⟨hi171, h⟩ := gv_of h
      refine as_M_17 (v0 := v1) X hP hS hi171 dX11_comesIn_171 (fun H locs hP hS => ?_)
      refine lv_iload_n hx hb dX11_comesIn_172 rfl (lv_at hl 2 rfl) ?_
      refine rb_ne (tgt := 177) hx hb dX11_comesIn_173 rfl (fun c173 => ?_) (fun c173 => ?_)
      · have h := br_p c173 h
        refine lv_aload_n hx hb dX11_comesIn_177 rfl (lv_at hl 0 rfl) ?_
        refine lv_iconst (v := 0) hx hb dX11_comesIn_178 rfl ?_
        refine lv_aload_n hx hb dX11_comesIn_179 rfl (lv_at hl 0 rfl) ?_
        refine lv_iload_n hx hb dX11_comesIn_180 rfl (lv_at hl 1 rfl) ?_
        refine lv_iconst (v := 0) hx hb dX11_comesIn_181 rfl ?_
        obtain ⟨o2, hco2, h⟩ := bd_of h
        refine kV (rest := [.int 0, .ref (q 0)]) X dX11_comesIn_182 wd_7_78 mw_X11_of wd_7_80 wp_9_3 hP (k0 := 0) rfl rfl rfl hS (fun _ z => z) (c_X11_of hco2) rfl hl.1 rfl (Nat.le_of_ble_eq_true rfl) rfl rfl ⟨Nat.le_of_ble_eq_true rfl, Nat.le_of_ble_eq_true rfl⟩ (fun H locs hP _ _ hS => ?_)
        refine W.eq (g2 := F0 m 185 ls [.int o2, .int 0, .ref (q 0)]) rfl ?_
        refine lv_aload_n hx hb dX11_comesIn_185 rfl (lv_at hl 0 rfl) ?_
        refine lv_iload_n hx hb dX11_comesIn_186 rfl (lv_at hl 1 rfl) ?_
        refine lv_iconst (v := 1) hx hb dX11_comesIn_187 rfl ?_
        obtain ⟨o3, hco3, h⟩ := bd_of h
        refine kV (rest := [.int o2, .int 0, .ref (q 0)]) X dX11_comesIn_188 wd_7_78 mw_X11_of wd_7_80 wp_9_3 hP (k0 := 0) rfl rfl rfl hS (fun _ z => z) (c_X11_of hco3) rfl hl.1 rfl (Nat.le_of_ble_eq_true rfl) rfl rfl ⟨Nat.le_of_ble_eq_true rfl, Nat.le_of_ble_eq_true rfl⟩ (fun H locs hP _ _ hS => ?_)
        refine W.eq (g2 := F0 m 191 ls [.int o3, .int o2, .int 0, .ref (q 0)]) rfl ?_
        refine lv_i2l hx hb dX11_comesIn_191 rfl ?_
        refine lv_aload_n hx hb dX11_comesIn_192 rfl (lv_at hl 0 rfl) ?_
        refine lv_iload_n hx hb dX11_comesIn_193 rfl (lv_at hl 1 rfl) ?_
        refine lv_iconst (v := 2) hx hb dX11_comesIn_194 rfl ?_
        obtain ⟨o4, hco4, h⟩ := bd_of h
        refine kV (rest := [.long o3.toInt64, .int o2, .int 0, .ref (q 0)]) X dX11_comesIn_195 wd_7_78 mw_X11_of wd_7_80 wp_9_3 hP (k0 := 0) rfl rfl rfl hS (fun _ z => z) (c_X11_of hco4) rfl hl.1 rfl (Nat.le_of_ble_eq_true rfl) rfl rfl ⟨Nat.le_of_ble_eq_true rfl, Nat.le_of_ble_eq_true rfl⟩ (fun H locs hP _ _ hS => ?_)
        refine W.eq (g2 := F0 m 198 ls [.int o4, .long o3.toInt64, .int o2, .int 0, .ref (q 0)]) rfl ?_
        refine lv_i2l hx hb dX11_comesIn_198 rfl ?_
        refine lv_aload_n hx hb dX11_comesIn_199 rfl (lv_at hl 0 rfl) ?_
        refine lv_iload_n hx hb dX11_comesIn_200 rfl (lv_at hl 1 rfl) ?_
        refine lv_iconst (v := 3) hx hb dX11_comesIn_201 rfl ?_
        obtain ⟨o5, hco5, h⟩ := bd_of h
        refine kV (rest := [.long o4.toInt64, .long o3.toInt64, .int o2, .int 0, .ref (q 0)]) X dX11_comesIn_202 wd_7_78 mw_X11_of wd_7_80 wp_9_3 hP (k0 := 0) rfl rfl rfl hS (fun _ z => z) (c_X11_of hco5) rfl hl.1 rfl (Nat.le_of_ble_eq_true rfl) rfl rfl ⟨Nat.le_of_ble_eq_true rfl, Nat.le_of_ble_eq_true rfl⟩ (fun H locs hP _ _ hS => ?_)
        refine W.eq (g2 := F0 m 205 ls [.int o5, .long o4.toInt64, .long o3.toInt64, .int o2, .int 0, .ref (q 0)]) rfl ?_
        refine lv_i2l hx hb dX11_comesIn_205 rfl ?_
        obtain ⟨o6, hco6, h⟩ := bd_of h
        refine kV (rest := []) X dX11_comesIn_206 wd_6_212 mw_X11_begins wd_6_214 wp_8_5 hP (k0 := 0) rfl rfl rfl hS (fun _ z => z) (c_X11_begins hco6) rfl hl.1 rfl (Nat.le_of_ble_eq_true rfl) rfl rfl ⟨Nat.le_of_ble_eq_true rfl, Nat.le_of_ble_eq_true rfl⟩ (fun H locs hP _ _ hS => ?_)
        refine W.eq (g2 := F0 m 209 ls []) rfl ?_
        refine lv_aload_n hx hb dX11_comesIn_209 rfl (lv_at hl 0 rfl) ?_
        refine gf_X11_226_M_0 X hP dX11_comesIn_210 ?_
        refine lv_bipush (v := 14) hx hb dX11_comesIn_213 rfl ?_
        refine lv_iload_n hx hb dX11_comesIn_215 rfl (lv_at hl 1 rfl) ?_
        refine lv_imul hx hb dX11_comesIn_216 ?_
        refine lv_bipush (v := 8) hx hb dX11_comesIn_217 rfl ?_
        refine lv_iadd hx hb dX11_comesIn_219 ?_
        refine lv_aload_n hx hb dX11_comesIn_220 rfl (lv_at hl 0 rfl) ?_
        refine gf_X11_337_M_0 X hP dX11_comesIn_221 ?_
        obtain ⟨hi224, h⟩ := gv_of h
        refine as_M_17 (v0 := o6.2.2.2.2.2) X hP hS hi224 dX11_comesIn_224 (fun H locs hP hS => ?_)
        refine lv_aload_n hx hb dX11_comesIn_225 rfl (lv_at hl 0 rfl) ?_
        refine lv_iload_n hx hb dX11_comesIn_226 rfl (lv_at hl 1 rfl) ?_
        obtain ⟨o7, hco7, h⟩ := bd_of h
        refine kV (rest := []) X dX11_comesIn_227 wd_7_111 mw_X11_puts wd_7_113 wp_9_8 hP (k0 := 0) rfl rfl rfl hS (fun _ z => z) (c_X11_puts hco7) rfl hl.1 rfl (Nat.le_of_ble_eq_true rfl) rfl rfl ⟨Nat.le_of_ble_eq_true rfl, Nat.le_of_ble_eq_true rfl⟩ (fun H locs hP _ _ hS => ?_)
        refine W.eq (g2 := F0 m 230 ls []) rfl ?_
        exact ret h hP hS dX11_comesIn_230
      · have h := br_n c173 h
        exact ret h hP hS dX11_comesIn_176
    · intro J h
      refine rb_eq (tgt := 170) hx hb dX11_comesIn_163 rfl (fun c163 => ?_) (fun c163 => ?_)
      · refine lv_iconst (v := 3) hx hb dX11_comesIn_170 rfl ?_
        exact J _ (lt_in c163 h) ls (lv_sub hl [1, 2, 0] rfl)
      · refine lv_iconst (v := 1) hx hb dX11_comesIn_166 rfl ?_
        refine lv_goto (tgt := 171) hx hb dX11_comesIn_167 rfl ?_
        exact J _ (lt_ip c163 h) ls (lv_sub hl [1, 2, 0] rfl)
  have b150 : ∀ (x1 : Int32) (m_x : Int64) (m_y : Int64) (m_z : Int64) (m_first : Int64) (m_second : Int64) (m_aside : Int32) (m_job : Nat → Int32) (m_trace : Nat → Int64) (H : Heap) (locs : List Loc) (ls : Array Slot), f_X11_comesIn_b150  m_clocks m_width m_guard m_points m_undo m_near m_quarter m_ln m_result  x1 m_x m_y m_z m_first m_second m_aside m_job m_trace = some o → WP g A (wM g q m_thrown m_length m_at m_fault m_toldWords m_orders m_value m_hasUnit m_places m_clocks m_held m_x m_y m_z m_first m_second m_aside m_jobs m_jobsImage m_clocksImage m_heldImage m_hasImage m_tape m_read m_order m_width m_guard m_points m_stages m_gain m_undo m_near m_quarter m_ln m_angle m_shift m_digit m_refused m_job m_jobKept m_result m_resultKept m_trace m_traceKept m_jobImage m_resultImage m_traceImage) H → va_S A s.heap H locs → lv_has ls 5 [(0, .ref (q 0)), (1, .int x1)] → W p l e rm_X11_comesIn s m args below meth c H locs 0 0 Q (F0 m 150 ls []) := by
    intro  x1 m_x m_y m_z m_first m_second m_aside m_job m_trace H locs ls h hP hS hl
    unfold f_X11_comesIn_b150 at h
    refine lv_iconst (v := 0) hx hb dX11_comesIn_150 rfl ?_
    exact b151   x1 false m_x m_y m_z m_first m_second m_aside m_job m_trace _ _ _ h hP hS (lv_sub hl [0, 1] rfl)
  have b85 : ∀ (k4 : Int32 → Bool → Int32 → Int64 → Int64 → Int64 → Int64 → Int64 → Int32 → (Nat → Int32) → (Nat → Int64) → Option (Int64 × Int64 × Int64 × Int64 × Int64 × Int32 × (Nat → Int32) × (Nat → Int64))) (hk4 : ∀ (x1 : Int32) (x2 : Bool) (x3 : Int32) (m_x : Int64) (m_y : Int64) (m_z : Int64) (m_first : Int64) (m_second : Int64) (m_aside : Int32) (m_job : Nat → Int32) (m_trace : Nat → Int64) (H : Heap) (locs : List Loc) (ls : Array Slot), k4 x1 x2 x3 m_x m_y m_z m_first m_second m_aside m_job m_trace = some o → WP g A (wM g q m_thrown m_length m_at m_fault m_toldWords m_orders m_value m_hasUnit m_places m_clocks m_held m_x m_y m_z m_first m_second m_aside m_jobs m_jobsImage m_clocksImage m_heldImage m_hasImage m_tape m_read m_order m_width m_guard m_points m_stages m_gain m_undo m_near m_quarter m_ln m_angle m_shift m_digit m_refused m_job m_jobKept m_result m_resultKept m_trace m_traceKept m_jobImage m_resultImage m_traceImage) H → va_S A s.heap H locs → lv_has ls 5 [(0, .ref (q 0)), (1, .int x1), (2, .int (bI x2)), (3, .int x3)] → W p l e rm_X11_comesIn s m args below meth c H locs 0 0 Q (F0 m 4 ls [])) , ∀ (x1 : Int32) (x2 : Bool) (x3 : Int32) (m_x : Int64) (m_y : Int64) (m_z : Int64) (m_first : Int64) (m_second : Int64) (m_aside : Int32) (m_job : Nat → Int32) (m_trace : Nat → Int64) (H : Heap) (locs : List Loc) (ls : Array Slot), f_X11_comesIn_b85  m_clocks m_width m_guard m_points m_undo m_near m_quarter m_ln m_result k4 x1 x2 x3 m_x m_y m_z m_first m_second m_aside m_job m_trace = some o → WP g A (wM g q m_thrown m_length m_at m_fault m_toldWords m_orders m_value m_hasUnit m_places m_clocks m_held m_x m_y m_z m_first m_second m_aside m_jobs m_jobsImage m_clocksImage m_heldImage m_hasImage m_tape m_read m_order m_width m_guard m_points m_stages m_gain m_undo m_near m_quarter m_ln m_angle m_shift m_digit m_refused m_job m_jobKept m_result m_resultKept m_trace m_traceKept m_jobImage m_resultImage m_traceImage) H → va_S A s.heap H locs → lv_has ls 5 [(0, .ref (q 0)), (1, .int x1), (2, .int (bI x2)), (3, .int x3)] → W p l e rm_X11_comesIn s m args below meth c H locs 0 0 Q (F0 m 85 ls []) := by
    intro k4 hk4 x1 x2 x3 m_x m_y m_z m_first m_second m_aside m_job m_trace H locs ls h hP hS hl
    unfold f_X11_comesIn_b85 at h
    obtain ⟨v23, ev23⟩ : ∃ z : Int32, z = (x3 + 1) := ⟨_, rfl⟩
    have h := lt_at ev23 h
    refine lv_iinc (v := v23) (lv' := [(3, .int v23), (0, .ref (q 0)), (1, .int x1), (2, .int (bI x2))]) hx hb dX11_comesIn_85 hl (k := 3) rfl (by rw [ev23]; rfl) (by decide) rfl (fun ls hl => ?_)
    refine lv_goto (tgt := 4) hx hb dX11_comesIn_88 rfl ?_
    exact hk4 x1 x2 v23 m_x m_y m_z m_first m_second m_aside m_job m_trace _ _ _ h hP hS (lv_sub hl [1, 2, 3, 0] rfl)
  have b51 : ∀ (k4 : Int32 → Bool → Int32 → Int64 → Int64 → Int64 → Int64 → Int64 → Int32 → (Nat → Int32) → (Nat → Int64) → Option (Int64 × Int64 × Int64 × Int64 × Int64 × Int32 × (Nat → Int32) × (Nat → Int64))) (hk4 : ∀ (x1 : Int32) (x2 : Bool) (x3 : Int32) (m_x : Int64) (m_y : Int64) (m_z : Int64) (m_first : Int64) (m_second : Int64) (m_aside : Int32) (m_job : Nat → Int32) (m_trace : Nat → Int64) (H : Heap) (locs : List Loc) (ls : Array Slot), k4 x1 x2 x3 m_x m_y m_z m_first m_second m_aside m_job m_trace = some o → WP g A (wM g q m_thrown m_length m_at m_fault m_toldWords m_orders m_value m_hasUnit m_places m_clocks m_held m_x m_y m_z m_first m_second m_aside m_jobs m_jobsImage m_clocksImage m_heldImage m_hasImage m_tape m_read m_order m_width m_guard m_points m_stages m_gain m_undo m_near m_quarter m_ln m_angle m_shift m_digit m_refused m_job m_jobKept m_result m_resultKept m_trace m_traceKept m_jobImage m_resultImage m_traceImage) H → va_S A s.heap H locs → lv_has ls 5 [(0, .ref (q 0)), (1, .int x1), (2, .int (bI x2)), (3, .int x3)] → W p l e rm_X11_comesIn s m args below meth c H locs 0 0 Q (F0 m 4 ls [])) , ∀ (x1 : Int32) (x3 : Int32) (x4 : Int32) (t0 : Bool) (m_x : Int64) (m_y : Int64) (m_z : Int64) (m_first : Int64) (m_second : Int64) (m_aside : Int32) (m_job : Nat → Int32) (m_trace : Nat → Int64) (H : Heap) (locs : List Loc) (ls : Array Slot), f_X11_comesIn_b51  m_clocks m_width m_guard m_points m_undo m_near m_quarter m_ln m_result k4 x1 x3 x4 t0 m_x m_y m_z m_first m_second m_aside m_job m_trace = some o → WP g A (wM g q m_thrown m_length m_at m_fault m_toldWords m_orders m_value m_hasUnit m_places m_clocks m_held m_x m_y m_z m_first m_second m_aside m_jobs m_jobsImage m_clocksImage m_heldImage m_hasImage m_tape m_read m_order m_width m_guard m_points m_stages m_gain m_undo m_near m_quarter m_ln m_angle m_shift m_digit m_refused m_job m_jobKept m_result m_resultKept m_trace m_traceKept m_jobImage m_resultImage m_traceImage) H → va_S A s.heap H locs → lv_has ls 5 [(0, .ref (q 0)), (1, .int x1), (3, .int x3), (4, .int x4)] → W p l e rm_X11_comesIn s m args below meth c H locs 0 0 Q (F0 m 51 ls [.int (bI t0)]) := by
    intro k4 hk4 x1 x3 x4 t0 m_x m_y m_z m_first m_second m_aside m_job m_trace H locs ls h hP hS hl
    unfold f_X11_comesIn_b51 at h
    refine lv_istore_n (lv' := [(2, .int (bI t0)), (0, .ref (q 0)), (1, .int x1), (3, .int x3), (4, .int x4)]) hx hb dX11_comesIn_51 rfl hl (by decide) rfl (fun ls hl => ?_)
    refine lv_aload_n hx hb dX11_comesIn_52 rfl (lv_at hl 1 rfl) ?_
    refine lv_iload hx hb dX11_comesIn_53 (lv_at hl 4 rfl) ?_
    refine lv_iconst (v := 2) hx hb dX11_comesIn_55 rfl ?_
    obtain ⟨cz56, h⟩ := gz_of h
    refine lv_idiv hx hb dX11_comesIn_56 cz56 ?_
    refine lv_iconst (v := 4) hx hb dX11_comesIn_57 rfl ?_
    obtain ⟨o22, hco22, h⟩ := bd_of h
    refine kV (rest := []) X dX11_comesIn_58 wd_7_78 mw_X11_of wd_7_80 wp_9_3 hP (k0 := 0) rfl rfl rfl hS (fun _ z => z) (c_X11_of hco22) rfl hl.1 rfl (Nat.le_of_ble_eq_true rfl) rfl rfl ⟨Nat.le_of_ble_eq_true rfl, Nat.le_of_ble_eq_true rfl⟩ (fun H locs hP _ _ hS => ?_)
    refine W.eq (g2 := F0 m 61 ls [.int o22]) rfl ?_
    refine lv_iconst (v := 2) hx hb dX11_comesIn_61 rfl ?_
    refine lv_icmp_ne (tgt := 85) hx hb dX11_comesIn_62 rfl (fun c62 => ?_) (fun c62 => ?_)
    · have h := br_n c62 h
      exact b85 k4 hk4  x1 t0 x3 m_x m_y m_z m_first m_second m_aside m_job m_trace _ _ _ h hP hS (lv_sub hl [1, 2, 0, 3] rfl)
    · have h := br_p c62 h
      refine lv_aload_n hx hb dX11_comesIn_65 rfl (lv_at hl 1 rfl) ?_
      refine gf_X11_226_M_0 X hP dX11_comesIn_66 ?_
      refine lv_bipush (v := 14) hx hb dX11_comesIn_69 rfl ?_
      refine lv_iload_n hx hb dX11_comesIn_71 rfl (lv_at hl 2 rfl) ?_
      refine lv_imul hx hb dX11_comesIn_72 ?_
      refine lv_iconst (v := 1) hx hb dX11_comesIn_73 rfl ?_
      refine lv_iadd hx hb dX11_comesIn_74 ?_
      refine lv_iload_n hx hb dX11_comesIn_75 rfl (lv_at hl 3 rfl) ?_
      refine lv_iadd hx hb dX11_comesIn_76 ?_
      refine lv_aload_n hx hb dX11_comesIn_77 rfl (lv_at hl 1 rfl) ?_
      refine gf_X11_232_M_0 X hP dX11_comesIn_78 ?_
      refine lv_iload hx hb dX11_comesIn_81 (lv_at hl 4 rfl) ?_
      obtain ⟨hi83, h⟩ := gv_of h
      refine al_M_19 X hP hi83 dX11_comesIn_83 ?_
      refine lv_topi (fun v24 ev24 => ?_)
      have h := lt_at ev24 h
      obtain ⟨hi84, h⟩ := gv_of h
      refine as_M_17 (v0 := v24) X hP hS hi84 dX11_comesIn_84 (fun H locs hP hS => ?_)
      exact b85 k4 hk4  x1 t0 x3 m_x m_y m_z m_first m_second m_aside (upd m_job (((((14 : Int32) * x1) + (1 : Int32)) + x3)).toNatClampNeg v24) m_trace _ _ _ h hP hS (lv_sub hl [1, 2, 0, 3] rfl)
  have b50 : ∀ (k4 : Int32 → Bool → Int32 → Int64 → Int64 → Int64 → Int64 → Int64 → Int32 → (Nat → Int32) → (Nat → Int64) → Option (Int64 × Int64 × Int64 × Int64 × Int64 × Int32 × (Nat → Int32) × (Nat → Int64))) (hk4 : ∀ (x1 : Int32) (x2 : Bool) (x3 : Int32) (m_x : Int64) (m_y : Int64) (m_z : Int64) (m_first : Int64) (m_second : Int64) (m_aside : Int32) (m_job : Nat → Int32) (m_trace : Nat → Int64) (H : Heap) (locs : List Loc) (ls : Array Slot), k4 x1 x2 x3 m_x m_y m_z m_first m_second m_aside m_job m_trace = some o → WP g A (wM g q m_thrown m_length m_at m_fault m_toldWords m_orders m_value m_hasUnit m_places m_clocks m_held m_x m_y m_z m_first m_second m_aside m_jobs m_jobsImage m_clocksImage m_heldImage m_hasImage m_tape m_read m_order m_width m_guard m_points m_stages m_gain m_undo m_near m_quarter m_ln m_angle m_shift m_digit m_refused m_job m_jobKept m_result m_resultKept m_trace m_traceKept m_jobImage m_resultImage m_traceImage) H → va_S A s.heap H locs → lv_has ls 5 [(0, .ref (q 0)), (1, .int x1), (2, .int (bI x2)), (3, .int x3)] → W p l e rm_X11_comesIn s m args below meth c H locs 0 0 Q (F0 m 4 ls [])) , ∀ (x1 : Int32) (x3 : Int32) (x4 : Int32) (m_x : Int64) (m_y : Int64) (m_z : Int64) (m_first : Int64) (m_second : Int64) (m_aside : Int32) (m_job : Nat → Int32) (m_trace : Nat → Int64) (H : Heap) (locs : List Loc) (ls : Array Slot), f_X11_comesIn_b50  m_clocks m_width m_guard m_points m_undo m_near m_quarter m_ln m_result k4 x1 x3 x4 m_x m_y m_z m_first m_second m_aside m_job m_trace = some o → WP g A (wM g q m_thrown m_length m_at m_fault m_toldWords m_orders m_value m_hasUnit m_places m_clocks m_held m_x m_y m_z m_first m_second m_aside m_jobs m_jobsImage m_clocksImage m_heldImage m_hasImage m_tape m_read m_order m_width m_guard m_points m_stages m_gain m_undo m_near m_quarter m_ln m_angle m_shift m_digit m_refused m_job m_jobKept m_result m_resultKept m_trace m_traceKept m_jobImage m_resultImage m_traceImage) H → va_S A s.heap H locs → lv_has ls 5 [(0, .ref (q 0)), (1, .int x1), (3, .int x3), (4, .int x4)] → W p l e rm_X11_comesIn s m args below meth c H locs 0 0 Q (F0 m 50 ls []) := by
    intro k4 hk4 x1 x3 x4 m_x m_y m_z m_first m_second m_aside m_job m_trace H locs ls h hP hS hl
    unfold f_X11_comesIn_b50 at h
    refine lv_iconst (v := 0) hx hb dX11_comesIn_50 rfl ?_
    exact b51 k4 hk4  x1 x3 x4 false m_x m_y m_z m_first m_second m_aside m_job m_trace _ _ _ h hP hS (lv_sub hl [0, 1, 2, 3] rfl)
  have l4 : ∀ (n : Nat), ∀ (x1 : Int32) (x2 : Bool) (x3 : Int32) (m_x : Int64) (m_y : Int64) (m_z : Int64) (m_first : Int64) (m_second : Int64) (m_aside : Int32) (m_job : Nat → Int32) (m_trace : Nat → Int64) (H : Heap) (locs : List Loc) (ls : Array Slot), f_X11_comesIn_l4  m_clocks m_width m_guard m_points m_undo m_near m_quarter m_ln m_result  n x1 x2 x3 m_x m_y m_z m_first m_second m_aside m_job m_trace = some o → WP g A (wM g q m_thrown m_length m_at m_fault m_toldWords m_orders m_value m_hasUnit m_places m_clocks m_held m_x m_y m_z m_first m_second m_aside m_jobs m_jobsImage m_clocksImage m_heldImage m_hasImage m_tape m_read m_order m_width m_guard m_points m_stages m_gain m_undo m_near m_quarter m_ln m_angle m_shift m_digit m_refused m_job m_jobKept m_result m_resultKept m_trace m_traceKept m_jobImage m_resultImage m_traceImage) H → va_S A s.heap H locs → lv_has ls 5 [(0, .ref (q 0)), (1, .int x1), (2, .int (bI x2)), (3, .int x3)] → W p l e rm_X11_comesIn s m args below meth c H locs 0 0 Q (F0 m 4 ls []) := by
    intro  n
    induction n with
    | zero =>
      intro x1 x2 x3 m_x m_y m_z m_first m_second m_aside m_job m_trace H locs ls h
      exact nz_of h
    | succ n ih =>
      intro x1 x2 x3 m_x m_y m_z m_first m_second m_aside m_job m_trace H locs ls h hP hS hl
      rw [f_X11_comesIn_l4] at h
      refine lv_iload_n hx hb dX11_comesIn_4 rfl (lv_at hl 3 rfl) ?_
      refine lv_iconst (v := 3) hx hb dX11_comesIn_5 rfl ?_
      refine lv_icmp_ge (tgt := 91) hx hb dX11_comesIn_6 rfl (fun c6 => ?_) (fun c6 => ?_)
      · have h := br_p c6 h
        refine lv_aload_n hx hb dX11_comesIn_91 rfl (lv_at hl 0 rfl) ?_
        refine gf_X11_226_M_0 X hP dX11_comesIn_92 ?_
        refine lv_bipush (v := 14) hx hb dX11_comesIn_95 rfl ?_
        refine lv_iload_n hx hb dX11_comesIn_97 rfl (lv_at hl 1 rfl) ?_
        refine lv_imul hx hb dX11_comesIn_98 ?_
        refine lv_bipush (v := 6) hx hb dX11_comesIn_99 rfl ?_
        refine lv_iadd hx hb dX11_comesIn_101 ?_
        refine lv_aload_n hx hb dX11_comesIn_102 rfl (lv_at hl 0 rfl) ?_
        refine gf_X11_267_M_0 X hP dX11_comesIn_103 ?_
        obtain ⟨hi106, h⟩ := gv_of h
        refine as_M_17 (v0 := m_clocks) X hP hS hi106 dX11_comesIn_106 (fun H locs hP hS => ?_)
        refine lv_iload_n hx hb dX11_comesIn_107 rfl (lv_at hl 2 rfl) ?_
        refine rb_eq (tgt := 150) hx hb dX11_comesIn_108 rfl (fun c108 => ?_) (fun c108 => ?_)
        · have h := br_n c108 h
          exact b150   x1 m_x m_y m_z m_first m_second m_aside (upd m_job ((((14 : Int32) * x1) + (6 : Int32))).toNatClampNeg m_clocks) m_trace _ _ _ h hP hS (lv_sub hl [0, 1] rfl)
        · have h := br_p c108 h
          refine lv_aload_n hx hb dX11_comesIn_111 rfl (lv_at hl 0 rfl) ?_
          refine lv_iconst (v := 0) hx hb dX11_comesIn_112 rfl ?_
          refine lv_aload_n hx hb dX11_comesIn_113 rfl (lv_at hl 0 rfl) ?_
          refine lv_iload_n hx hb dX11_comesIn_114 rfl (lv_at hl 1 rfl) ?_
          refine lv_iconst (v := 0) hx hb dX11_comesIn_115 rfl ?_
          obtain ⟨o8, hco8, h⟩ := bd_of h
          refine kV (rest := [.int 0, .ref (q 0)]) X dX11_comesIn_116 wd_7_78 mw_X11_of wd_7_80 wp_9_3 hP (k0 := 0) rfl rfl rfl hS (fun _ z => z) (c_X11_of hco8) rfl hl.1 rfl (Nat.le_of_ble_eq_true rfl) rfl rfl ⟨Nat.le_of_ble_eq_true rfl, Nat.le_of_ble_eq_true rfl⟩ (fun H locs hP _ _ hS => ?_)
          refine W.eq (g2 := F0 m 119 ls [.int o8, .int 0, .ref (q 0)]) rfl ?_
          refine lv_aload_n hx hb dX11_comesIn_119 rfl (lv_at hl 0 rfl) ?_
          refine lv_iload_n hx hb dX11_comesIn_120 rfl (lv_at hl 1 rfl) ?_
          refine lv_iconst (v := 1) hx hb dX11_comesIn_121 rfl ?_
          obtain ⟨o9, hco9, h⟩ := bd_of h
          refine kV (rest := [.int o8, .int 0, .ref (q 0)]) X dX11_comesIn_122 wd_7_78 mw_X11_of wd_7_80 wp_9_3 hP (k0 := 0) rfl rfl rfl hS (fun _ z => z) (c_X11_of hco9) rfl hl.1 rfl (Nat.le_of_ble_eq_true rfl) rfl rfl ⟨Nat.le_of_ble_eq_true rfl, Nat.le_of_ble_eq_true rfl⟩ (fun H locs hP _ _ hS => ?_)
          refine W.eq (g2 := F0 m 125 ls [.int o9, .int o8, .int 0, .ref (q 0)]) rfl ?_
          refine lv_i2l hx hb dX11_comesIn_125 rfl ?_
          refine lv_aload_n hx hb dX11_comesIn_126 rfl (lv_at hl 0 rfl) ?_
          refine lv_iload_n hx hb dX11_comesIn_127 rfl (lv_at hl 1 rfl) ?_
          refine lv_iconst (v := 2) hx hb dX11_comesIn_128 rfl ?_
          obtain ⟨o10, hco10, h⟩ := bd_of h
          refine kV (rest := [.long o9.toInt64, .int o8, .int 0, .ref (q 0)]) X dX11_comesIn_129 wd_7_78 mw_X11_of wd_7_80 wp_9_3 hP (k0 := 0) rfl rfl rfl hS (fun _ z => z) (c_X11_of hco10) rfl hl.1 rfl (Nat.le_of_ble_eq_true rfl) rfl rfl ⟨Nat.le_of_ble_eq_true rfl, Nat.le_of_ble_eq_true rfl⟩ (fun H locs hP _ _ hS => ?_)
          refine W.eq (g2 := F0 m 132 ls [.int o10, .long o9.toInt64, .int o8, .int 0, .ref (q 0)]) rfl ?_
          refine lv_i2l hx hb dX11_comesIn_132 rfl ?_
          refine lv_aload_n hx hb dX11_comesIn_133 rfl (lv_at hl 0 rfl) ?_
          refine lv_iload_n hx hb dX11_comesIn_134 rfl (lv_at hl 1 rfl) ?_
          refine lv_iconst (v := 3) hx hb dX11_comesIn_135 rfl ?_
          obtain ⟨o11, hco11, h⟩ := bd_of h
          refine kV (rest := [.long o10.toInt64, .long o9.toInt64, .int o8, .int 0, .ref (q 0)]) X dX11_comesIn_136 wd_7_78 mw_X11_of wd_7_80 wp_9_3 hP (k0 := 0) rfl rfl rfl hS (fun _ z => z) (c_X11_of hco11) rfl hl.1 rfl (Nat.le_of_ble_eq_true rfl) rfl rfl ⟨Nat.le_of_ble_eq_true rfl, Nat.le_of_ble_eq_true rfl⟩ (fun H locs hP _ _ hS => ?_)
          refine W.eq (g2 := F0 m 139 ls [.int o11, .long o10.toInt64, .long o9.toInt64, .int o8, .int 0, .ref (q 0)]) rfl ?_
          refine lv_i2l hx hb dX11_comesIn_139 rfl ?_
          obtain ⟨o12, hco12, h⟩ := bd_of h
          refine kV (rest := []) X dX11_comesIn_140 wd_6_204 mw_X11_isGood wd_6_206 wp_8_4 hP (k0 := 0) rfl rfl rfl hS (fun _ z => z) (c_X11_isGood hco12) rfl hl.1 rfl (Nat.le_of_ble_eq_true rfl) rfl rfl ⟨Nat.le_of_ble_eq_true rfl, Nat.le_of_ble_eq_true rfl⟩ (fun H locs hP _ _ hS => ?_)
          refine W.eq (g2 := F0 m 143 ls [.int (bI o12)]) rfl ?_
          refine jx1 h (P := fun (v13 : Bool) => ∀ ls : Array Slot, lv_has ls 5 [(0, .ref (q 0)), (1, .int x1)] → W p l e rm_X11_comesIn s m args below meth c H locs 0 0 Q (F0 m 151 ls [.int (bI v13)])) ?_ ?_
          · intro v13 h ls hl
            refine lv_istore_n (lv' := [(2, .int (bI v13)), (0, .ref (q 0)), (1, .int x1)]) hx hb dX11_comesIn_151 rfl hl (by decide) rfl (fun ls hl => ?_)
            refine lv_aload_n hx hb dX11_comesIn_152 rfl (lv_at hl 1 rfl) ?_
            refine gf_X11_226_M_0 X hP dX11_comesIn_153 ?_
            refine lv_bipush (v := 14) hx hb dX11_comesIn_156 rfl ?_
            refine lv_iload_n hx hb dX11_comesIn_158 rfl (lv_at hl 2 rfl) ?_
            refine lv_imul hx hb dX11_comesIn_159 ?_
            refine lv_iconst (v := 4) hx hb dX11_comesIn_160 rfl ?_
            refine lv_iadd hx hb dX11_comesIn_161 ?_
            refine lv_iload_n hx hb dX11_comesIn_162 rfl (lv_at hl 0 rfl) ?_
            refine jx1 h (P := fun (v14 : Int32) => ∀ ls : Array Slot, lv_has ls 5 [(0, .ref (q 0)), (1, .int x1), (2, .int (bI v13))] → W p l e rm_X11_comesIn s m args below meth c H locs 0 0 Q (F0 m 171 ls [.int v14, .int (((14 : Int32) * x1) + (4 : Int32)), .ref (q 17)])) ?_ ?_
            · intro v14 h ls hl
              obtain ⟨hi171, h⟩ := gv_of h
              refine as_M_17 (v0 := v14) X hP hS hi171 dX11_comesIn_171 (fun H locs hP hS => ?_)
              refine lv_iload_n hx hb dX11_comesIn_172 rfl (lv_at hl 2 rfl) ?_
              refine rb_ne (tgt := 177) hx hb dX11_comesIn_173 rfl (fun c173 => ?_) (fun c173 => ?_)
              · have h := br_p c173 h
                refine lv_aload_n hx hb dX11_comesIn_177 rfl (lv_at hl 0 rfl) ?_
                refine lv_iconst (v := 0) hx hb dX11_comesIn_178 rfl ?_
                refine lv_aload_n hx hb dX11_comesIn_179 rfl (lv_at hl 0 rfl) ?_
                refine lv_iload_n hx hb dX11_comesIn_180 rfl (lv_at hl 1 rfl) ?_
                refine lv_iconst (v := 0) hx hb dX11_comesIn_181 rfl ?_
                obtain ⟨o15, hco15, h⟩ := bd_of h
                refine kV (rest := [.int 0, .ref (q 0)]) X dX11_comesIn_182 wd_7_78 mw_X11_of wd_7_80 wp_9_3 hP (k0 := 0) rfl rfl rfl hS (fun _ z => z) (c_X11_of hco15) rfl hl.1 rfl (Nat.le_of_ble_eq_true rfl) rfl rfl ⟨Nat.le_of_ble_eq_true rfl, Nat.le_of_ble_eq_true rfl⟩ (fun H locs hP _ _ hS => ?_)
                refine W.eq (g2 := F0 m 185 ls [.int o15, .int 0, .ref (q 0)]) rfl ?_
                refine lv_aload_n hx hb dX11_comesIn_185 rfl (lv_at hl 0 rfl) ?_
                refine lv_iload_n hx hb dX11_comesIn_186 rfl (lv_at hl 1 rfl) ?_
                refine lv_iconst (v := 1) hx hb dX11_comesIn_187 rfl ?_
                obtain ⟨o16, hco16, h⟩ := bd_of h
                refine kV (rest := [.int o15, .int 0, .ref (q 0)]) X dX11_comesIn_188 wd_7_78 mw_X11_of wd_7_80 wp_9_3 hP (k0 := 0) rfl rfl rfl hS (fun _ z => z) (c_X11_of hco16) rfl hl.1 rfl (Nat.le_of_ble_eq_true rfl) rfl rfl ⟨Nat.le_of_ble_eq_true rfl, Nat.le_of_ble_eq_true rfl⟩ (fun H locs hP _ _ hS => ?_)
                refine W.eq (g2 := F0 m 191 ls [.int o16, .int o15, .int 0, .ref (q 0)]) rfl ?_
                refine lv_i2l hx hb dX11_comesIn_191 rfl ?_
                refine lv_aload_n hx hb dX11_comesIn_192 rfl (lv_at hl 0 rfl) ?_
                refine lv_iload_n hx hb dX11_comesIn_193 rfl (lv_at hl 1 rfl) ?_
                refine lv_iconst (v := 2) hx hb dX11_comesIn_194 rfl ?_
                obtain ⟨o17, hco17, h⟩ := bd_of h
                refine kV (rest := [.long o16.toInt64, .int o15, .int 0, .ref (q 0)]) X dX11_comesIn_195 wd_7_78 mw_X11_of wd_7_80 wp_9_3 hP (k0 := 0) rfl rfl rfl hS (fun _ z => z) (c_X11_of hco17) rfl hl.1 rfl (Nat.le_of_ble_eq_true rfl) rfl rfl ⟨Nat.le_of_ble_eq_true rfl, Nat.le_of_ble_eq_true rfl⟩ (fun H locs hP _ _ hS => ?_)
                refine W.eq (g2 := F0 m 198 ls [.int o17, .long o16.toInt64, .int o15, .int 0, .ref (q 0)]) rfl ?_
                refine lv_i2l hx hb dX11_comesIn_198 rfl ?_
                refine lv_aload_n hx hb dX11_comesIn_199 rfl (lv_at hl 0 rfl) ?_
                refine lv_iload_n hx hb dX11_comesIn_200 rfl (lv_at hl 1 rfl) ?_
                refine lv_iconst (v := 3) hx hb dX11_comesIn_201 rfl ?_
                obtain ⟨o18, hco18, h⟩ := bd_of h
                refine kV (rest := [.long o17.toInt64, .long o16.toInt64, .int o15, .int 0, .ref (q 0)]) X dX11_comesIn_202 wd_7_78 mw_X11_of wd_7_80 wp_9_3 hP (k0 := 0) rfl rfl rfl hS (fun _ z => z) (c_X11_of hco18) rfl hl.1 rfl (Nat.le_of_ble_eq_true rfl) rfl rfl ⟨Nat.le_of_ble_eq_true rfl, Nat.le_of_ble_eq_true rfl⟩ (fun H locs hP _ _ hS => ?_)
                refine W.eq (g2 := F0 m 205 ls [.int o18, .long o17.toInt64, .long o16.toInt64, .int o15, .int 0, .ref (q 0)]) rfl ?_
                refine lv_i2l hx hb dX11_comesIn_205 rfl ?_
                obtain ⟨o19, hco19, h⟩ := bd_of h
                refine kV (rest := []) X dX11_comesIn_206 wd_6_212 mw_X11_begins wd_6_214 wp_8_5 hP (k0 := 0) rfl rfl rfl hS (fun _ z => z) (c_X11_begins hco19) rfl hl.1 rfl (Nat.le_of_ble_eq_true rfl) rfl rfl ⟨Nat.le_of_ble_eq_true rfl, Nat.le_of_ble_eq_true rfl⟩ (fun H locs hP _ _ hS => ?_)
                refine W.eq (g2 := F0 m 209 ls []) rfl ?_
                refine lv_aload_n hx hb dX11_comesIn_209 rfl (lv_at hl 0 rfl) ?_
                refine gf_X11_226_M_0 X hP dX11_comesIn_210 ?_
                refine lv_bipush (v := 14) hx hb dX11_comesIn_213 rfl ?_
                refine lv_iload_n hx hb dX11_comesIn_215 rfl (lv_at hl 1 rfl) ?_
                refine lv_imul hx hb dX11_comesIn_216 ?_
                refine lv_bipush (v := 8) hx hb dX11_comesIn_217 rfl ?_
                refine lv_iadd hx hb dX11_comesIn_219 ?_
                refine lv_aload_n hx hb dX11_comesIn_220 rfl (lv_at hl 0 rfl) ?_
                refine gf_X11_337_M_0 X hP dX11_comesIn_221 ?_
                obtain ⟨hi224, h⟩ := gv_of h
                refine as_M_17 (v0 := o19.2.2.2.2.2) X hP hS hi224 dX11_comesIn_224 (fun H locs hP hS => ?_)
                refine lv_aload_n hx hb dX11_comesIn_225 rfl (lv_at hl 0 rfl) ?_
                refine lv_iload_n hx hb dX11_comesIn_226 rfl (lv_at hl 1 rfl) ?_
                obtain ⟨o20, hco20, h⟩ := bd_of h
                refine kV (rest := []) X dX11_comesIn_227 wd_7_111 mw_X11_puts wd_7_113 wp_9_8 hP (k0 := 0) rfl rfl rfl hS (fun _ z => z) (c_X11_puts hco20) rfl hl.1 rfl (Nat.le_of_ble_eq_true rfl) rfl rfl ⟨Nat.le_of_ble_eq_true rfl, Nat.le_of_ble_eq_true rfl⟩ (fun H locs hP _ _ hS => ?_)
                refine W.eq (g2 := F0 m 230 ls []) rfl ?_
                exact ret h hP hS dX11_comesIn_230
              · have h := br_n c173 h
                exact ret h hP hS dX11_comesIn_176
            · intro J h
              refine rb_eq (tgt := 170) hx hb dX11_comesIn_163 rfl (fun c163 => ?_) (fun c163 => ?_)
              · refine lv_iconst (v := 3) hx hb dX11_comesIn_170 rfl ?_
                exact J _ (lt_in c163 h) ls (lv_sub hl [1, 2, 0] rfl)
              · refine lv_iconst (v := 1) hx hb dX11_comesIn_166 rfl ?_
                refine lv_goto (tgt := 171) hx hb dX11_comesIn_167 rfl ?_
                exact J _ (lt_ip c163 h) ls (lv_sub hl [1, 2, 0] rfl)
          · intro J h
            refine rb_eq (tgt := 150) hx hb dX11_comesIn_143 rfl (fun c143 => ?_) (fun c143 => ?_)
            · refine lv_iconst (v := 0) hx hb dX11_comesIn_150 rfl ?_
              exact J _ (lt_in c143 h) ls (lv_sub hl [0, 1] rfl)
            · refine lv_iconst (v := 1) hx hb dX11_comesIn_146 rfl ?_
              refine lv_goto (tgt := 151) hx hb dX11_comesIn_147 rfl ?_
              exact J _ (lt_ip c143 h) ls (lv_sub hl [0, 1] rfl)
      · have h := br_n c6 h
        refine lv_aload_n hx hb dX11_comesIn_9 rfl (lv_at hl 0 rfl) ?_
        refine lv_iload_n hx hb dX11_comesIn_10 rfl (lv_at hl 1 rfl) ?_
        refine lv_bipush (v := 10) hx hb dX11_comesIn_11 rfl ?_
        refine lv_iload_n hx hb dX11_comesIn_13 rfl (lv_at hl 3 rfl) ?_
        refine lv_iadd hx hb dX11_comesIn_14 ?_
        obtain ⟨o21, hco21, h⟩ := bd_of h
        refine kV (rest := []) X dX11_comesIn_15 wd_7_78 mw_X11_of wd_7_80 wp_9_3 hP (k0 := 0) rfl rfl rfl hS (fun _ z => z) (c_X11_of hco21) rfl hl.1 rfl (Nat.le_of_ble_eq_true rfl) rfl rfl ⟨Nat.le_of_ble_eq_true rfl, Nat.le_of_ble_eq_true rfl⟩ (fun H locs hP _ _ hS => ?_)
        refine W.eq (g2 := F0 m 18 ls [.int o21]) rfl ?_
        refine lv_istore (lv' := [(4, .int o21), (0, .ref (q 0)), (1, .int x1), (2, .int (bI x2)), (3, .int x3)]) hx hb dX11_comesIn_18 hl (by decide) rfl (fun ls hl => ?_)
        refine lv_iload hx hb dX11_comesIn_20 (lv_at hl 0 rfl) ?_
        refine lv_iconst (v := (-1)) hx hb dX11_comesIn_22 rfl ?_
        refine lv_icmp_ne (tgt := 29) hx hb dX11_comesIn_23 rfl (fun c23 => ?_) (fun c23 => ?_)
        · have h := br_n c23 h
          refine lv_iload_n hx hb dX11_comesIn_29 rfl (lv_at hl 3 rfl) ?_
          refine rb_eq (tgt := 50) hx hb dX11_comesIn_30 rfl (fun c30 => ?_) (fun c30 => ?_)
          · have h := br_n c30 h
            exact b50 (f_X11_comesIn_l4  m_clocks m_width m_guard m_points m_undo m_near m_quarter m_ln m_result  n) ih  x1 x3 o21 m_x m_y m_z m_first m_second m_aside m_job m_trace _ _ _ h hP hS (lv_sub hl [1, 2, 4, 0] rfl)
          · have h := br_p c30 h
            refine lv_aload_n hx hb dX11_comesIn_33 rfl (lv_at hl 1 rfl) ?_
            refine lv_iload hx hb dX11_comesIn_34 (lv_at hl 0 rfl) ?_
            refine lv_iconst (v := 2) hx hb dX11_comesIn_36 rfl ?_
            obtain ⟨cz37, h⟩ := gz_of h
            refine lv_idiv hx hb dX11_comesIn_37 cz37 ?_
            refine lv_iconst (v := 4) hx hb dX11_comesIn_38 rfl ?_
            obtain ⟨o25, hco25, h⟩ := bd_of h
            refine kV (rest := []) X dX11_comesIn_39 wd_7_78 mw_X11_of wd_7_80 wp_9_3 hP (k0 := 0) rfl rfl rfl hS (fun _ z => z) (c_X11_of hco25) rfl hl.1 rfl (Nat.le_of_ble_eq_true rfl) rfl rfl ⟨Nat.le_of_ble_eq_true rfl, Nat.le_of_ble_eq_true rfl⟩ (fun H locs hP _ _ hS => ?_)
            refine W.eq (g2 := F0 m 42 ls [.int o25]) rfl ?_
            refine lv_iconst (v := 2) hx hb dX11_comesIn_42 rfl ?_
            refine jx1 h (P := fun (v26 : Bool) => ∀ ls : Array Slot, lv_has ls 5 [(0, .ref (q 0)), (1, .int x1), (3, .int x3), (4, .int o21)] → W p l e rm_X11_comesIn s m args below meth c H locs 0 0 Q (F0 m 51 ls [.int (bI v26)])) ?_ ?_
            · intro v26 h ls hl
              refine lv_istore_n (lv' := [(2, .int (bI v26)), (0, .ref (q 0)), (1, .int x1), (3, .int x3), (4, .int o21)]) hx hb dX11_comesIn_51 rfl hl (by decide) rfl (fun ls hl => ?_)
              refine lv_aload_n hx hb dX11_comesIn_52 rfl (lv_at hl 1 rfl) ?_
              refine lv_iload hx hb dX11_comesIn_53 (lv_at hl 4 rfl) ?_
              refine lv_iconst (v := 2) hx hb dX11_comesIn_55 rfl ?_
              obtain ⟨cz56, h⟩ := gz_of h
              refine lv_idiv hx hb dX11_comesIn_56 cz56 ?_
              refine lv_iconst (v := 4) hx hb dX11_comesIn_57 rfl ?_
              obtain ⟨o27, hco27, h⟩ := bd_of h
              refine kV (rest := []) X dX11_comesIn_58 wd_7_78 mw_X11_of wd_7_80 wp_9_3 hP (k0 := 0) rfl rfl rfl hS (fun _ z => z) (c_X11_of hco27) rfl hl.1 rfl (Nat.le_of_ble_eq_true rfl) rfl rfl ⟨Nat.le_of_ble_eq_true rfl, Nat.le_of_ble_eq_true rfl⟩ (fun H locs hP _ _ hS => ?_)
              refine W.eq (g2 := F0 m 61 ls [.int o27]) rfl ?_
              refine lv_iconst (v := 2) hx hb dX11_comesIn_61 rfl ?_
              refine lv_icmp_ne (tgt := 85) hx hb dX11_comesIn_62 rfl (fun c62 => ?_) (fun c62 => ?_)
              · have h := br_n c62 h
                exact b85 (f_X11_comesIn_l4  m_clocks m_width m_guard m_points m_undo m_near m_quarter m_ln m_result  n) ih  x1 v26 x3 m_x m_y m_z m_first m_second m_aside m_job m_trace _ _ _ h hP hS (lv_sub hl [1, 2, 0, 3] rfl)
              · have h := br_p c62 h
                refine lv_aload_n hx hb dX11_comesIn_65 rfl (lv_at hl 1 rfl) ?_
                refine gf_X11_226_M_0 X hP dX11_comesIn_66 ?_
                refine lv_bipush (v := 14) hx hb dX11_comesIn_69 rfl ?_
                refine lv_iload_n hx hb dX11_comesIn_71 rfl (lv_at hl 2 rfl) ?_
                refine lv_imul hx hb dX11_comesIn_72 ?_
                refine lv_iconst (v := 1) hx hb dX11_comesIn_73 rfl ?_
                refine lv_iadd hx hb dX11_comesIn_74 ?_
                refine lv_iload_n hx hb dX11_comesIn_75 rfl (lv_at hl 3 rfl) ?_
                refine lv_iadd hx hb dX11_comesIn_76 ?_
                refine lv_aload_n hx hb dX11_comesIn_77 rfl (lv_at hl 1 rfl) ?_
                refine gf_X11_232_M_0 X hP dX11_comesIn_78 ?_
                refine lv_iload hx hb dX11_comesIn_81 (lv_at hl 4 rfl) ?_
                obtain ⟨hi83, h⟩ := gv_of h
                refine al_M_19 X hP hi83 dX11_comesIn_83 ?_
                refine lv_topi (fun v28 ev28 => ?_)
                have h := lt_at ev28 h
                obtain ⟨hi84, h⟩ := gv_of h
                refine as_M_17 (v0 := v28) X hP hS hi84 dX11_comesIn_84 (fun H locs hP hS => ?_)
                exact b85 (f_X11_comesIn_l4  m_clocks m_width m_guard m_points m_undo m_near m_quarter m_ln m_result  n) ih  x1 v26 x3 m_x m_y m_z m_first m_second m_aside (upd m_job (((((14 : Int32) * x1) + (1 : Int32)) + x3)).toNatClampNeg v28) m_trace _ _ _ h hP hS (lv_sub hl [1, 2, 0, 3] rfl)
            · intro J h
              refine lv_icmp_ne (tgt := 50) hx hb dX11_comesIn_43 rfl (fun c43 => ?_) (fun c43 => ?_)
              · refine lv_iconst (v := 0) hx hb dX11_comesIn_50 rfl ?_
                exact J _ (lt_in c43 h) ls (lv_sub hl [1, 2, 4, 0] rfl)
              · refine lv_iconst (v := 1) hx hb dX11_comesIn_46 rfl ?_
                refine lv_goto (tgt := 51) hx hb dX11_comesIn_47 rfl ?_
                exact J _ (lt_ip c43 h) ls (lv_sub hl [1, 2, 4, 0] rfl)
        · have h := br_p c23 h
          refine lv_goto (tgt := 85) hx hb dX11_comesIn_26 rfl ?_
          exact b85 (f_X11_comesIn_l4  m_clocks m_width m_guard m_points m_undo m_near m_quarter m_ln m_result  n) ih  x1 x2 x3 m_x m_y m_z m_first m_second m_aside m_job m_trace _ _ _ h hP hS (lv_sub hl [1, 2, 3, 4] rfl)
  unfold f_X11_comesIn at h
  refine lv_iconst (v := 1) hx hb dX11_comesIn_0 rfl ?_
  refine lv_istore_n (lv' := [(2, .int 1), (0, .ref (q 0)), (1, .int p0)]) hx hb dX11_comesIn_1 rfl hl (by decide) rfl (fun ls hl => ?_)
  refine lv_iconst (v := 0) hx hb dX11_comesIn_2 rfl ?_
  refine lv_istore_n (lv' := [(3, .int 0), (2, .int 1), (0, .ref (q 0)), (1, .int p0)]) hx hb dX11_comesIn_3 rfl hl (by decide) rfl (fun ls hl => ?_)
  exact l4  FU p0 true (0 : Int32) m_x m_y m_z m_first m_second m_aside m_job m_trace _ _ _ h hP hS (lv_sub hl [2, 3, 1, 0] rfl)
abbrev rm_X11_ticks : Room := { frames := 4, cells := 0, slots := 0, locals := 105 }
set_option maxRecDepth 100000 in
set_option maxHeartbeats 4000000 in
theorem c_X11_ticks {g : gT} {l : Launch} {A : Nat → Prop} {q : Nat → Nat} {m_thrown : Int32} {m_length : Int32} {m_at : Int32} {m_fault : Int32} {m_toldWords : Int32} {m_orders : Int32} {m_value : Int32} {m_hasUnit : Bool} {m_places : Int32} {m_clocks : Int32} {m_held : Bool} {m_x : Int64} {m_y : Int64} {m_z : Int64} {m_first : Int64} {m_second : Int64} {m_aside : Int32} {m_jobs : Int32} {m_jobsImage : Int32} {m_clocksImage : Int32} {m_heldImage : Bool} {m_hasImage : Bool} {m_tape : Nat → Int32} {m_read : Nat → Int32} {m_order : Nat → Int32} {m_width : Nat → Int32} {m_guard : Nat → Int32} {m_points : Nat → Int32} {m_stages : Nat → Int32} {m_gain : Nat → Int32} {m_undo : Nat → Int32} {m_near : Nat → Bool} {m_quarter : Nat → Int64} {m_ln : Nat → Int64} {m_angle : Nat → Int64} {m_shift : Nat → Int32} {m_digit : Nat → Int32} {m_refused : Nat → Int32} {m_job : Nat → Int32} {m_jobKept : Nat → Int32} {m_result : Nat → Int32} {m_resultKept : Nat → Int32} {m_trace : Nat → Int64} {m_traceKept : Nat → Int64} {m_jobImage : Nat → Int32} {m_resultImage : Nat → Int32} {m_traceImage : Nat → Int64}  {o : Int32 × Int32 × Int64 × Int64 × Int64 × Int64 × Int64 × Int32 × (Nat → Int32) × (Nat → Int32) × (Nat → Int64)} (h : f_X11_ticks  m_places m_clocks m_held m_x m_y m_z m_first m_second m_aside m_jobs m_width m_guard m_points m_stages m_undo m_near m_quarter m_ln m_angle m_shift m_digit m_job m_result m_trace = some o) : Std g l yX11_ticks (.code yX11_ticks cX11_ticks 3 (some .int) :: gw) rm_X11_ticks A [.ref (q 0)] (wM g q m_thrown m_length m_at m_fault m_toldWords m_orders m_value m_hasUnit m_places m_clocks m_held m_x m_y m_z m_first m_second m_aside m_jobs m_jobsImage m_clocksImage m_heldImage m_hasImage m_tape m_read m_order m_width m_guard m_points m_stages m_gain m_undo m_near m_quarter m_ln m_angle m_shift m_digit m_refused m_job m_jobKept m_result m_resultKept m_trace m_traceKept m_jobImage m_resultImage m_traceImage) (wM g q m_thrown m_length m_at m_fault m_toldWords m_orders m_value m_hasUnit m_places o.2.1 m_held o.2.2.1 o.2.2.2.1 o.2.2.2.2.1 o.2.2.2.2.2.1 o.2.2.2.2.2.2.1 o.2.2.2.2.2.2.2.1 m_jobs m_jobsImage m_clocksImage m_heldImage m_hasImage m_tape m_read m_order m_width m_guard m_points m_stages m_gain m_undo m_near m_quarter m_ln m_angle m_shift m_digit m_refused o.2.2.2.2.2.2.2.2.1 m_jobKept o.2.2.2.2.2.2.2.2.2.1 m_resultKept o.2.2.2.2.2.2.2.2.2.2 m_traceKept m_jobImage m_resultImage m_traceImage) (some (.int o.1)) := by
  refine std_i (own := RX11) (by decide +kernel) rfl (Nat.le_of_ble_eq_true rfl) ?_
  intro p e s m args below meth c Q X ret H locs hP hS ls hl
  have hx := X.1
  have hb := X.2.1
  have hl : lv_has ls 3 [(0, .ref (q 0))] := hl
  have ret : ∀ {H : Heap} {locs : List Loc} {pc : Nat} {ls : Array Slot} {v : Int32} {m_clocks : Int32} {m_x : Int64} {m_y : Int64} {m_z : Int64} {m_first : Int64} {m_second : Int64} {m_aside : Int32} {m_job : Nat → Int32} {m_result : Nat → Int32} {m_trace : Nat → Int64}, some (v, m_clocks, m_x, m_y, m_z, m_first, m_second, m_aside, m_job, m_result, m_trace) = some o → WP g A (wM g q m_thrown m_length m_at m_fault m_toldWords m_orders m_value m_hasUnit m_places m_clocks m_held m_x m_y m_z m_first m_second m_aside m_jobs m_jobsImage m_clocksImage m_heldImage m_hasImage m_tape m_read m_order m_width m_guard m_points m_stages m_gain m_undo m_near m_quarter m_ln m_angle m_shift m_digit m_refused m_job m_jobKept m_result m_resultKept m_trace m_traceKept m_jobImage m_resultImage m_traceImage) H → va_S A s.heap H locs → decode cX11_ticks pc = .ok (.ireturn, 1) → W p l e rm_X11_ticks s m args below meth c H locs 0 0 Q (F0 m pc ls [.int v]) := by
    intro H locs pc ls v m_clocks m_x m_y m_z m_first m_second m_aside m_job m_result m_trace h hP hS hd
    cases h
    exact ret hP hS hd
  have b87 : ∀ (x1 : Int32) (m_clocks : Int32) (m_x : Int64) (m_y : Int64) (m_z : Int64) (m_first : Int64) (m_second : Int64) (m_aside : Int32) (m_job : Nat → Int32) (m_result : Nat → Int32) (m_trace : Nat → Int64) (H : Heap) (locs : List Loc) (ls : Array Slot), f_X11_ticks_b87  m_places m_held m_jobs m_width m_guard m_points m_stages m_undo m_near m_quarter m_ln m_angle m_shift m_digit  x1 m_clocks m_x m_y m_z m_first m_second m_aside m_job m_result m_trace = some o → WP g A (wM g q m_thrown m_length m_at m_fault m_toldWords m_orders m_value m_hasUnit m_places m_clocks m_held m_x m_y m_z m_first m_second m_aside m_jobs m_jobsImage m_clocksImage m_heldImage m_hasImage m_tape m_read m_order m_width m_guard m_points m_stages m_gain m_undo m_near m_quarter m_ln m_angle m_shift m_digit m_refused m_job m_jobKept m_result m_resultKept m_trace m_traceKept m_jobImage m_resultImage m_traceImage) H → va_S A s.heap H locs → lv_has ls 3 [(1, .int x1)] → W p l e rm_X11_ticks s m args below meth c H locs 0 0 Q (F0 m 87 ls []) := by
    intro  x1 m_clocks m_x m_y m_z m_first m_second m_aside m_job m_result m_trace H locs ls h hP hS hl
    unfold f_X11_ticks_b87 at h
    refine lv_iload_n hx hb dX11_ticks_87 rfl (lv_at hl 0 rfl) ?_
    exact ret h hP hS dX11_ticks_88
  have b49 : ∀ (k23 : Int32 → Int32 → Int32 → Int64 → Int64 → Int64 → Int64 → Int64 → Int32 → (Nat → Int32) → (Nat → Int32) → (Nat → Int64) → Option (Int32 × Int32 × Int64 × Int64 × Int64 × Int64 × Int64 × Int32 × (Nat → Int32) × (Nat → Int32) × (Nat → Int64))) (hk23 : ∀ (x1 : Int32) (x2 : Int32) (m_clocks : Int32) (m_x : Int64) (m_y : Int64) (m_z : Int64) (m_first : Int64) (m_second : Int64) (m_aside : Int32) (m_job : Nat → Int32) (m_result : Nat → Int32) (m_trace : Nat → Int64) (H : Heap) (locs : List Loc) (ls : Array Slot), k23 x1 x2 m_clocks m_x m_y m_z m_first m_second m_aside m_job m_result m_trace = some o → WP g A (wM g q m_thrown m_length m_at m_fault m_toldWords m_orders m_value m_hasUnit m_places m_clocks m_held m_x m_y m_z m_first m_second m_aside m_jobs m_jobsImage m_clocksImage m_heldImage m_hasImage m_tape m_read m_order m_width m_guard m_points m_stages m_gain m_undo m_near m_quarter m_ln m_angle m_shift m_digit m_refused m_job m_jobKept m_result m_resultKept m_trace m_traceKept m_jobImage m_resultImage m_traceImage) H → va_S A s.heap H locs → lv_has ls 3 [(0, .ref (q 0)), (1, .int x1), (2, .int x2)] → W p l e rm_X11_ticks s m args below meth c H locs 0 0 Q (F0 m 23 ls [])) , ∀ (x1 : Int32) (x2 : Int32) (m_clocks : Int32) (m_x : Int64) (m_y : Int64) (m_z : Int64) (m_first : Int64) (m_second : Int64) (m_aside : Int32) (m_job : Nat → Int32) (m_result : Nat → Int32) (m_trace : Nat → Int64) (H : Heap) (locs : List Loc) (ls : Array Slot), f_X11_ticks_b49  m_places m_held m_jobs m_width m_guard m_points m_stages m_undo m_near m_quarter m_ln m_angle m_shift m_digit k23 x1 x2 m_clocks m_x m_y m_z m_first m_second m_aside m_job m_result m_trace = some o → WP g A (wM g q m_thrown m_length m_at m_fault m_toldWords m_orders m_value m_hasUnit m_places m_clocks m_held m_x m_y m_z m_first m_second m_aside m_jobs m_jobsImage m_clocksImage m_heldImage m_hasImage m_tape m_read m_order m_width m_guard m_points m_stages m_gain m_undo m_near m_quarter m_ln m_angle m_shift m_digit m_refused m_job m_jobKept m_result m_resultKept m_trace m_traceKept m_jobImage m_resultImage m_traceImage) H → va_S A s.heap H locs → lv_has ls 3 [(0, .ref (q 0)), (1, .int x1), (2, .int x2)] → W p l e rm_X11_ticks s m args below meth c H locs 0 0 Q (F0 m 49 ls []) := by
    intro k23 hk23 x1 x2 m_clocks m_x m_y m_z m_first m_second m_aside m_job m_result m_trace H locs ls h hP hS hl
    unfold f_X11_ticks_b49 at h
    obtain ⟨v7, ev7⟩ : ∃ z : Int32, z = (x2 + 1) := ⟨_, rfl⟩
    have h := lt_at ev7 h
    refine lv_iinc (v := v7) (lv' := [(2, .int v7), (0, .ref (q 0)), (1, .int x1)]) hx hb dX11_ticks_49 hl (k := 2) rfl (by rw [ev7]; rfl) (by decide) rfl (fun ls hl => ?_)
    refine lv_goto (tgt := 23) hx hb dX11_ticks_52 rfl ?_
    exact hk23 x1 v7 m_clocks m_x m_y m_z m_first m_second m_aside m_job m_result m_trace _ _ _ h hP hS (lv_sub hl [1, 2, 0] rfl)
  have l23 : ∀ (n : Nat), ∀ (x1 : Int32) (x2 : Int32) (m_clocks : Int32) (m_x : Int64) (m_y : Int64) (m_z : Int64) (m_first : Int64) (m_second : Int64) (m_aside : Int32) (m_job : Nat → Int32) (m_result : Nat → Int32) (m_trace : Nat → Int64) (H : Heap) (locs : List Loc) (ls : Array Slot), f_X11_ticks_l23  m_places m_held m_jobs m_width m_guard m_points m_stages m_undo m_near m_quarter m_ln m_angle m_shift m_digit  n x1 x2 m_clocks m_x m_y m_z m_first m_second m_aside m_job m_result m_trace = some o → WP g A (wM g q m_thrown m_length m_at m_fault m_toldWords m_orders m_value m_hasUnit m_places m_clocks m_held m_x m_y m_z m_first m_second m_aside m_jobs m_jobsImage m_clocksImage m_heldImage m_hasImage m_tape m_read m_order m_width m_guard m_points m_stages m_gain m_undo m_near m_quarter m_ln m_angle m_shift m_digit m_refused m_job m_jobKept m_result m_resultKept m_trace m_traceKept m_jobImage m_resultImage m_traceImage) H → va_S A s.heap H locs → lv_has ls 3 [(0, .ref (q 0)), (1, .int x1), (2, .int x2)] → W p l e rm_X11_ticks s m args below meth c H locs 0 0 Q (F0 m 23 ls []) := by
    intro  n
    induction n with
    | zero =>
      intro x1 x2 m_clocks m_x m_y m_z m_first m_second m_aside m_job m_result m_trace H locs ls h
      exact nz_of h
    | succ n ih =>
      intro x1 x2 m_clocks m_x m_y m_z m_first m_second m_aside m_job m_result m_trace H locs ls h hP hS hl
      rw [f_X11_ticks_l23] at h
      refine lv_iload_n hx hb dX11_ticks_23 rfl (lv_at hl 2 rfl) ?_
      refine lv_aload_n hx hb dX11_ticks_24 rfl (lv_at hl 0 rfl) ?_
      refine gf_X11_273_M_0 X hP dX11_ticks_25 ?_
      refine lv_icmp_ge (tgt := 55) hx hb dX11_ticks_28 rfl (fun c28 => ?_) (fun c28 => ?_)
      · have h := br_p c28 h
        refine lv_aload_n hx hb dX11_ticks_55 rfl (lv_at hl 0 rfl) ?_
        obtain ⟨o2, hco2, h⟩ := bd_of h
        refine kV (rest := []) X dX11_ticks_56 wd_7_115 mw_X11_firstWaiting wd_7_117 wp_9_9 hP (k0 := 0) rfl rfl rfl hS (fun _ z => z) (c_X11_firstWaiting hco2) rfl hl.1 rfl (Nat.le_of_ble_eq_true rfl) rfl rfl ⟨Nat.le_of_ble_eq_true rfl, Nat.le_of_ble_eq_true rfl⟩ (fun H locs hP _ _ hS => ?_)
        refine W.eq (g2 := F0 m 59 ls [.int o2]) rfl ?_
        refine lv_istore_n (lv' := [(2, .int o2), (0, .ref (q 0)), (1, .int x1)]) hx hb dX11_ticks_59 rfl hl (by decide) rfl (fun ls hl => ?_)
        refine lv_iload_n hx hb dX11_ticks_60 rfl (lv_at hl 0 rfl) ?_
        refine lv_iconst (v := (-1)) hx hb dX11_ticks_61 rfl ?_
        refine lv_icmp_eq (tgt := 87) hx hb dX11_ticks_62 rfl (fun c62 => ?_) (fun c62 => ?_)
        · have h := br_p c62 h
          exact b87   x1 m_clocks m_x m_y m_z m_first m_second m_aside m_job m_result m_trace _ _ _ h hP hS (lv_sub hl [2] rfl)
        · have h := br_n c62 h
          refine lv_aload_n hx hb dX11_ticks_65 rfl (lv_at hl 1 rfl) ?_
          refine lv_iconst (v := 0) hx hb dX11_ticks_66 rfl ?_
          obtain ⟨o3, hco3, h⟩ := bd_of h
          refine kV (rest := []) X dX11_ticks_67 wd_7_119 mw_X11_standsIn wd_7_121 wp_9_10 hP (k0 := 0) rfl rfl rfl hS (fun _ z => z) (c_X11_standsIn hco3) rfl hl.1 rfl (Nat.le_of_ble_eq_true rfl) rfl rfl ⟨Nat.le_of_ble_eq_true rfl, Nat.le_of_ble_eq_true rfl⟩ (fun H locs hP _ _ hS => ?_)
          refine W.eq (g2 := F0 m 70 ls [.int o3]) rfl ?_
          refine lv_iconst (v := (-1)) hx hb dX11_ticks_70 rfl ?_
          refine lv_icmp_ne (tgt := 87) hx hb dX11_ticks_71 rfl (fun c71 => ?_) (fun c71 => ?_)
          · have h := br_n c71 h
            exact b87   x1 m_clocks m_x m_y m_z m_first m_second m_aside m_job m_result m_trace _ _ _ h hP hS (lv_sub hl [2] rfl)
          · have h := br_p c71 h
            refine lv_aload_n hx hb dX11_ticks_74 rfl (lv_at hl 1 rfl) ?_
            refine lv_iload_n hx hb dX11_ticks_75 rfl (lv_at hl 0 rfl) ?_
            obtain ⟨o4, hco4, h⟩ := bd_of h
            refine kV (rest := []) X dX11_ticks_76 wd_7_123 mw_X11_hangs wd_7_125 wp_9_11 hP (k0 := 0) rfl rfl rfl hS (fun _ z => z) (c_X11_hangs hco4) rfl hl.1 rfl (Nat.le_of_ble_eq_true rfl) rfl rfl ⟨Nat.le_of_ble_eq_true rfl, Nat.le_of_ble_eq_true rfl⟩ (fun H locs hP _ _ hS => ?_)
            refine W.eq (g2 := F0 m 79 ls [.int (bI o4)]) rfl ?_
            refine rb_ne (tgt := 87) hx hb dX11_ticks_79 rfl (fun c79 => ?_) (fun c79 => ?_)
            · have h := br_p c79 h
              exact b87   x1 m_clocks m_x m_y m_z m_first m_second m_aside m_job m_result m_trace _ _ _ h hP hS (lv_sub hl [2] rfl)
            · have h := br_n c79 h
              refine lv_aload_n hx hb dX11_ticks_82 rfl (lv_at hl 1 rfl) ?_
              refine lv_iload_n hx hb dX11_ticks_83 rfl (lv_at hl 0 rfl) ?_
              obtain ⟨o5, hco5, h⟩ := bd_of h
              refine kV (rest := []) X dX11_ticks_84 wd_7_127 mw_X11_comesIn wd_7_129 wp_9_12 hP (k0 := 0) rfl rfl rfl hS (fun _ z => z) (c_X11_comesIn hco5) rfl hl.1 rfl (Nat.le_of_ble_eq_true rfl) rfl rfl ⟨Nat.le_of_ble_eq_true rfl, Nat.le_of_ble_eq_true rfl⟩ (fun H locs hP _ _ hS => ?_)
              refine W.eq (g2 := F0 m 87 ls []) rfl ?_
              exact b87   x1 m_clocks o5.1 o5.2.1 o5.2.2.1 o5.2.2.2.1 o5.2.2.2.2.1 o5.2.2.2.2.2.1 o5.2.2.2.2.2.2.1 m_result o5.2.2.2.2.2.2.2 _ _ _ h hP hS (lv_sub hl [2] rfl)
      · have h := br_n c28 h
        refine lv_aload_n hx hb dX11_ticks_31 rfl (lv_at hl 0 rfl) ?_
        refine lv_iload_n hx hb dX11_ticks_32 rfl (lv_at hl 2 rfl) ?_
        refine lv_iconst (v := 4) hx hb dX11_ticks_33 rfl ?_
        obtain ⟨o6, hco6, h⟩ := bd_of h
        refine kV (rest := []) X dX11_ticks_34 wd_7_78 mw_X11_of wd_7_80 wp_9_3 hP (k0 := 0) rfl rfl rfl hS (fun _ z => z) (c_X11_of hco6) rfl hl.1 rfl (Nat.le_of_ble_eq_true rfl) rfl rfl ⟨Nat.le_of_ble_eq_true rfl, Nat.le_of_ble_eq_true rfl⟩ (fun H locs hP _ _ hS => ?_)
        refine W.eq (g2 := F0 m 37 ls [.int o6]) rfl ?_
        refine lv_iconst (v := 1) hx hb dX11_ticks_37 rfl ?_
        refine lv_icmp_ne (tgt := 49) hx hb dX11_ticks_38 rfl (fun c38 => ?_) (fun c38 => ?_)
        · have h := br_n c38 h
          exact b49 (f_X11_ticks_l23  m_places m_held m_jobs m_width m_guard m_points m_stages m_undo m_near m_quarter m_ln m_angle m_shift m_digit  n) ih  x1 x2 m_clocks m_x m_y m_z m_first m_second m_aside m_job m_result m_trace _ _ _ h hP hS (lv_sub hl [0, 1, 2] rfl)
        · have h := br_p c38 h
          refine lv_iload_n hx hb dX11_ticks_41 rfl (lv_at hl 1 rfl) ?_
          refine lv_aload_n hx hb dX11_ticks_42 rfl (lv_at hl 0 rfl) ?_
          refine lv_iload_n hx hb dX11_ticks_43 rfl (lv_at hl 2 rfl) ?_
          obtain ⟨o8, hco8, h⟩ := bd_of h
          refine kV (rest := [.int x1]) X dX11_ticks_44 wd_7_103 mw_X11_goesOn wd_7_105 wp_9_6 hP (k0 := 0) rfl rfl rfl hS (fun _ z => z) (c_X11_goesOn hco8) rfl hl.1 rfl (Nat.le_of_ble_eq_true rfl) rfl rfl ⟨Nat.le_of_ble_eq_true rfl, Nat.le_of_ble_eq_true rfl⟩ (fun H locs hP _ _ hS => ?_)
          refine W.eq (g2 := F0 m 47 ls [.int o8.1, .int x1]) rfl ?_
          refine lv_iadd hx hb dX11_ticks_47 ?_
          refine lv_topi (fun v9 ev9 => ?_)
          have h := lt_at ev9 h
          refine lv_istore_n (lv' := [(1, .int v9), (0, .ref (q 0)), (2, .int x2)]) hx hb dX11_ticks_48 rfl hl (by decide) rfl (fun ls hl => ?_)
          exact b49 (f_X11_ticks_l23  m_places m_held m_jobs m_width m_guard m_points m_stages m_undo m_near m_quarter m_ln m_angle m_shift m_digit  n) ih  v9 x2 m_clocks o8.2.1 o8.2.2.1 o8.2.2.2.1 o8.2.2.2.2.1 o8.2.2.2.2.2.1 o8.2.2.2.2.2.2.1 o8.2.2.2.2.2.2.2.1 o8.2.2.2.2.2.2.2.2.1 o8.2.2.2.2.2.2.2.2.2 _ _ _ h hP hS (lv_sub hl [1, 0, 2] rfl)
  unfold f_X11_ticks at h
  refine lv_aload_n hx hb dX11_ticks_0 rfl (lv_at hl 0 rfl) ?_
  refine lv_dup hx hb dX11_ticks_1 rfl ?_
  refine gf_X11_267_M_0 X hP dX11_ticks_2 ?_
  refine lv_iconst (v := 1) hx hb dX11_ticks_5 rfl ?_
  refine lv_iadd hx hb dX11_ticks_6 ?_
  refine lv_topi (fun v1 ev1 => ?_)
  have h := lt_at ev1 h
  refine pf_X11_267_M_0 (v0 := v1) X hP hS dX11_ticks_7 (fun H locs hP hS => ?_)
  refine lv_aload_n hx hb dX11_ticks_10 rfl (lv_at hl 0 rfl) ?_
  refine gf_X11_270_M_0 X hP dX11_ticks_11 ?_
  refine rb_eq (tgt := 19) hx hb dX11_ticks_14 rfl (fun c14 => ?_) (fun c14 => ?_)
  · have h := br_n c14 h
    refine lv_iconst (v := 0) hx hb dX11_ticks_19 rfl ?_
    refine lv_istore_n (lv' := [(1, .int 0), (0, .ref (q 0))]) hx hb dX11_ticks_20 rfl hl (by decide) rfl (fun ls hl => ?_)
    refine lv_iconst (v := 0) hx hb dX11_ticks_21 rfl ?_
    refine lv_istore_n (lv' := [(2, .int 0), (1, .int 0), (0, .ref (q 0))]) hx hb dX11_ticks_22 rfl hl (by decide) rfl (fun ls hl => ?_)
    exact l23  FU (0 : Int32) (0 : Int32) v1 m_x m_y m_z m_first m_second m_aside m_job m_result m_trace _ _ _ h hP hS (lv_sub hl [2, 1, 0] rfl)
  · have h := br_p c14 h
    refine lv_iconst (v := 0) hx hb dX11_ticks_17 rfl ?_
    exact ret h hP hS dX11_ticks_18
abbrev rm_X11_clock : Room := { frames := 5, cells := 0, slots := 0, locals := 127 }
set_option maxRecDepth 100000 in
set_option maxHeartbeats 4000000 in
theorem c_X11_clock {g : gT} {l : Launch} {A : Nat → Prop} {q : Nat → Nat} {m_thrown : Int32} {m_length : Int32} {m_at : Int32} {m_fault : Int32} {m_toldWords : Int32} {m_orders : Int32} {m_value : Int32} {m_hasUnit : Bool} {m_places : Int32} {m_clocks : Int32} {m_held : Bool} {m_x : Int64} {m_y : Int64} {m_z : Int64} {m_first : Int64} {m_second : Int64} {m_aside : Int32} {m_jobs : Int32} {m_jobsImage : Int32} {m_clocksImage : Int32} {m_heldImage : Bool} {m_hasImage : Bool} {m_tape : Nat → Int32} {m_read : Nat → Int32} {m_order : Nat → Int32} {m_width : Nat → Int32} {m_guard : Nat → Int32} {m_points : Nat → Int32} {m_stages : Nat → Int32} {m_gain : Nat → Int32} {m_undo : Nat → Int32} {m_near : Nat → Bool} {m_quarter : Nat → Int64} {m_ln : Nat → Int64} {m_angle : Nat → Int64} {m_shift : Nat → Int32} {m_digit : Nat → Int32} {m_refused : Nat → Int32} {m_job : Nat → Int32} {m_jobKept : Nat → Int32} {m_result : Nat → Int32} {m_resultKept : Nat → Int32} {m_trace : Nat → Int64} {m_traceKept : Nat → Int64} {m_jobImage : Nat → Int32} {m_resultImage : Nat → Int32} {m_traceImage : Nat → Int64} {p0 : Int32} {o : Int32 × Int32 × Int32 × Int64 × Int64 × Int64 × Int64 × Int64 × Int32 × (Nat → Int32) × (Nat → Int32) × (Nat → Int32) × (Nat → Int64)} (h : f_X11_clock p0 m_thrown m_hasUnit m_places m_clocks m_held m_x m_y m_z m_first m_second m_aside m_jobs m_width m_guard m_points m_stages m_undo m_near m_quarter m_ln m_angle m_shift m_digit m_refused m_job m_result m_trace = some o) : Std g l yX11_clock (.code yX11_clock cX11_clock 4 (some .int) :: gw) rm_X11_clock A [.ref (q 0), .int p0] (wM g q m_thrown m_length m_at m_fault m_toldWords m_orders m_value m_hasUnit m_places m_clocks m_held m_x m_y m_z m_first m_second m_aside m_jobs m_jobsImage m_clocksImage m_heldImage m_hasImage m_tape m_read m_order m_width m_guard m_points m_stages m_gain m_undo m_near m_quarter m_ln m_angle m_shift m_digit m_refused m_job m_jobKept m_result m_resultKept m_trace m_traceKept m_jobImage m_resultImage m_traceImage) (wM g q o.2.1 m_length m_at m_fault m_toldWords m_orders m_value m_hasUnit m_places o.2.2.1 m_held o.2.2.2.1 o.2.2.2.2.1 o.2.2.2.2.2.1 o.2.2.2.2.2.2.1 o.2.2.2.2.2.2.2.1 o.2.2.2.2.2.2.2.2.1 m_jobs m_jobsImage m_clocksImage m_heldImage m_hasImage m_tape m_read m_order m_width m_guard m_points m_stages m_gain m_undo m_near m_quarter m_ln m_angle m_shift m_digit o.2.2.2.2.2.2.2.2.2.1 o.2.2.2.2.2.2.2.2.2.2.1 m_jobKept o.2.2.2.2.2.2.2.2.2.2.2.1 m_resultKept o.2.2.2.2.2.2.2.2.2.2.2.2 m_traceKept m_jobImage m_resultImage m_traceImage) (some (.int o.1)) := by
  refine std_i (own := RX11) (by decide +kernel) rfl (Nat.le_of_ble_eq_true rfl) ?_
  intro p e s m args below meth c Q X ret H locs hP hS ls hl
  have hx := X.1
  have hb := X.2.1
  have hl : lv_has ls 4 [(0, .ref (q 0)), (1, .int p0)] := hl
  have ret : ∀ {H : Heap} {locs : List Loc} {pc : Nat} {ls : Array Slot} {v : Int32} {m_thrown : Int32} {m_clocks : Int32} {m_x : Int64} {m_y : Int64} {m_z : Int64} {m_first : Int64} {m_second : Int64} {m_aside : Int32} {m_refused : Nat → Int32} {m_job : Nat → Int32} {m_result : Nat → Int32} {m_trace : Nat → Int64}, some (v, m_thrown, m_clocks, m_x, m_y, m_z, m_first, m_second, m_aside, m_refused, m_job, m_result, m_trace) = some o → WP g A (wM g q m_thrown m_length m_at m_fault m_toldWords m_orders m_value m_hasUnit m_places m_clocks m_held m_x m_y m_z m_first m_second m_aside m_jobs m_jobsImage m_clocksImage m_heldImage m_hasImage m_tape m_read m_order m_width m_guard m_points m_stages m_gain m_undo m_near m_quarter m_ln m_angle m_shift m_digit m_refused m_job m_jobKept m_result m_resultKept m_trace m_traceKept m_jobImage m_resultImage m_traceImage) H → va_S A s.heap H locs → decode cX11_clock pc = .ok (.ireturn, 1) → W p l e rm_X11_clock s m args below meth c H locs 0 0 Q (F0 m pc ls [.int v]) := by
    intro H locs pc ls v m_thrown m_clocks m_x m_y m_z m_first m_second m_aside m_refused m_job m_result m_trace h hP hS hd
    cases h
    exact ret hP hS hd
  have l40 : ∀ (n : Nat), ∀ (x1 : Int32) (x2 : Int32) (x3 : Int32) (m_thrown : Int32) (m_clocks : Int32) (m_x : Int64) (m_y : Int64) (m_z : Int64) (m_first : Int64) (m_second : Int64) (m_aside : Int32) (m_refused : Nat → Int32) (m_job : Nat → Int32) (m_result : Nat → Int32) (m_trace : Nat → Int64) (H : Heap) (locs : List Loc) (ls : Array Slot), f_X11_clock_l40  m_hasUnit m_places m_held m_jobs m_width m_guard m_points m_stages m_undo m_near m_quarter m_ln m_angle m_shift m_digit  n x1 x2 x3 m_thrown m_clocks m_x m_y m_z m_first m_second m_aside m_refused m_job m_result m_trace = some o → WP g A (wM g q m_thrown m_length m_at m_fault m_toldWords m_orders m_value m_hasUnit m_places m_clocks m_held m_x m_y m_z m_first m_second m_aside m_jobs m_jobsImage m_clocksImage m_heldImage m_hasImage m_tape m_read m_order m_width m_guard m_points m_stages m_gain m_undo m_near m_quarter m_ln m_angle m_shift m_digit m_refused m_job m_jobKept m_result m_resultKept m_trace m_traceKept m_jobImage m_resultImage m_traceImage) H → va_S A s.heap H locs → lv_has ls 4 [(0, .ref (q 0)), (1, .int x1), (2, .int x2), (3, .int x3)] → W p l e rm_X11_clock s m args below meth c H locs 0 0 Q (F0 m 40 ls []) := by
    intro  n
    induction n with
    | zero =>
      intro x1 x2 x3 m_thrown m_clocks m_x m_y m_z m_first m_second m_aside m_refused m_job m_result m_trace H locs ls h
      exact nz_of h
    | succ n ih =>
      intro x1 x2 x3 m_thrown m_clocks m_x m_y m_z m_first m_second m_aside m_refused m_job m_result m_trace H locs ls h hP hS hl
      rw [f_X11_clock_l40] at h
      refine lv_iload_n hx hb dX11_clock_40 rfl (lv_at hl 3 rfl) ?_
      refine lv_iload_n hx hb dX11_clock_41 rfl (lv_at hl 1 rfl) ?_
      refine lv_icmp_ge (tgt := 58) hx hb dX11_clock_42 rfl (fun c42 => ?_) (fun c42 => ?_)
      · have h := br_p c42 h
        refine lv_iload_n hx hb dX11_clock_58 rfl (lv_at hl 2 rfl) ?_
        exact ret h hP hS dX11_clock_59
      · have h := br_n c42 h
        refine lv_iload_n hx hb dX11_clock_45 rfl (lv_at hl 2 rfl) ?_
        refine lv_aload_n hx hb dX11_clock_46 rfl (lv_at hl 0 rfl) ?_
        obtain ⟨o2, hco2, h⟩ := bd_of h
        refine kV (rest := [.int x2]) X dX11_clock_47 wd_7_99 mw_X11_ticks wd_7_101 wp_9_5 hP (k0 := 0) rfl rfl rfl hS (fun _ z => z) (c_X11_ticks hco2) rfl hl.1 rfl (Nat.le_of_ble_eq_true rfl) rfl rfl ⟨Nat.le_of_ble_eq_true rfl, Nat.le_of_ble_eq_true rfl⟩ (fun H locs hP _ _ hS => ?_)
        refine W.eq (g2 := F0 m 50 ls [.int o2.1, .int x2]) rfl ?_
        refine lv_iadd hx hb dX11_clock_50 ?_
        refine lv_topi (fun v3 ev3 => ?_)
        have h := lt_at ev3 h
        refine lv_istore_n (lv' := [(2, .int v3), (0, .ref (q 0)), (1, .int x1), (3, .int x3)]) hx hb dX11_clock_51 rfl hl (by decide) rfl (fun ls hl => ?_)
        obtain ⟨v4, ev4⟩ : ∃ z : Int32, z = (x3 + 1) := ⟨_, rfl⟩
        have h := lt_at ev4 h
        refine lv_iinc (v := v4) (lv' := [(3, .int v4), (2, .int v3), (0, .ref (q 0)), (1, .int x1)]) hx hb dX11_clock_52 hl (k := 3) rfl (by rw [ev4]; rfl) (by decide) rfl (fun ls hl => ?_)
        refine lv_goto (tgt := 40) hx hb dX11_clock_55 rfl ?_
        exact ih x1 v3 v4 m_thrown o2.2.1 o2.2.2.1 o2.2.2.2.1 o2.2.2.2.2.1 o2.2.2.2.2.2.1 o2.2.2.2.2.2.2.1 o2.2.2.2.2.2.2.2.1 m_refused o2.2.2.2.2.2.2.2.2.1 o2.2.2.2.2.2.2.2.2.2.1 o2.2.2.2.2.2.2.2.2.2.2 _ _ _ h hP hS (lv_sub hl [2, 3, 1, 0] rfl)
  unfold f_X11_clock at h
  refine lv_aload_n hx hb dX11_clock_0 rfl (lv_at hl 0 rfl) ?_
  refine lv_iconst (v := 0) hx hb dX11_clock_1 rfl ?_
  refine pf_X11_5_M_0 (v0 := (0 : Int32)) X hP hS dX11_clock_2 (fun H locs hP hS => ?_)
  refine lv_aload_n hx hb dX11_clock_5 rfl (lv_at hl 0 rfl) ?_
  refine gf_X11_260_M_0 X hP dX11_clock_6 ?_
  refine rb_ne (tgt := 18) hx hb dX11_clock_9 rfl (fun c9 => ?_) (fun c9 => ?_)
  · have h := br_p c9 h
    refine lv_iload_n hx hb dX11_clock_18 rfl (lv_at hl 1 rfl) ?_
    refine lv_i2l hx hb dX11_clock_19 rfl ?_
    refine lv_lconst (v := 1) hx hb dX11_clock_20 rfl ?_
    refine lv_ldc2 (v := 100) hx hb X.2.2.2.1 (X.2.2.2.2.1 _ wd_7_98) dX11_clock_21 ?_
    obtain ⟨o1, hco1, h⟩ := bd_of h
    refine kS (rest := []) X dX11_clock_24 wd_5_153 mw_X11_isIn wd_5_154 hP hS (fun _ z => z) (c_X11_isIn hco1) rfl hl.1 rfl (Nat.le_of_ble_eq_true rfl) rfl rfl ⟨Nat.le_of_ble_eq_true rfl, Nat.le_of_ble_eq_true rfl⟩ (fun H locs hP _ _ hS => ?_)
    refine W.eq (g2 := F0 m 27 ls [.int (bI o1)]) rfl ?_
    refine rb_ne (tgt := 36) hx hb dX11_clock_27 rfl (fun c27 => ?_) (fun c27 => ?_)
    · have h := br_p c27 h
      refine lv_iconst (v := 0) hx hb dX11_clock_36 rfl ?_
      refine lv_istore_n (lv' := [(2, .int 0), (0, .ref (q 0)), (1, .int p0)]) hx hb dX11_clock_37 rfl hl (by decide) rfl (fun ls hl => ?_)
      refine lv_iconst (v := 0) hx hb dX11_clock_38 rfl ?_
      refine lv_istore_n (lv' := [(3, .int 0), (2, .int 0), (0, .ref (q 0)), (1, .int p0)]) hx hb dX11_clock_39 rfl hl (by decide) rfl (fun ls hl => ?_)
      exact l40  FU p0 (0 : Int32) (0 : Int32) (0 : Int32) m_clocks m_x m_y m_z m_first m_second m_aside m_refused m_job m_result m_trace _ _ _ h hP hS (lv_sub hl [2, 3, 1, 0] rfl)
    · have h := br_n c27 h
      refine lv_aload_n hx hb dX11_clock_30 rfl (lv_at hl 0 rfl) ?_
      refine lv_iconst (v := 1) hx hb dX11_clock_31 rfl ?_
      obtain ⟨o5, hco5, h⟩ := bd_of h
      refine kV (rest := []) X dX11_clock_32 wd_7_50 mw_X11_refuse wd_7_52 wp_8_14 hP (k0 := 0) rfl rfl rfl hS (fun _ z => z) (c_X11_refuse hco5) rfl hl.1 rfl (Nat.le_of_ble_eq_true rfl) rfl rfl ⟨Nat.le_of_ble_eq_true rfl, Nat.le_of_ble_eq_true rfl⟩ (fun H locs hP _ _ hS => ?_)
      refine W.eq (g2 := F0 m 35 ls [.int o5.1]) rfl ?_
      exact ret h hP hS dX11_clock_35
  · have h := br_n c9 h
    refine lv_aload_n hx hb dX11_clock_12 rfl (lv_at hl 0 rfl) ?_
    refine lv_iconst (v := 0) hx hb dX11_clock_13 rfl ?_
    obtain ⟨o6, hco6, h⟩ := bd_of h
    refine kV (rest := []) X dX11_clock_14 wd_7_50 mw_X11_refuse wd_7_52 wp_8_14 hP (k0 := 0) rfl rfl rfl hS (fun _ z => z) (c_X11_refuse hco6) rfl hl.1 rfl (Nat.le_of_ble_eq_true rfl) rfl rfl ⟨Nat.le_of_ble_eq_true rfl, Nat.le_of_ble_eq_true rfl⟩ (fun H locs hP _ _ hS => ?_)
    refine W.eq (g2 := F0 m 17 ls [.int o6.1]) rfl ?_
    exact ret h hP hS dX11_clock_17
abbrev rm_X11_hold : Room := { frames := 1, cells := 0, slots := 0, locals := 21 }
set_option maxRecDepth 100000 in
set_option maxHeartbeats 4000000 in
theorem c_X11_hold {g : gT} {l : Launch} {A : Nat → Prop} {q : Nat → Nat} {m_thrown : Int32} {m_length : Int32} {m_at : Int32} {m_fault : Int32} {m_toldWords : Int32} {m_orders : Int32} {m_value : Int32} {m_hasUnit : Bool} {m_places : Int32} {m_clocks : Int32} {m_held : Bool} {m_x : Int64} {m_y : Int64} {m_z : Int64} {m_first : Int64} {m_second : Int64} {m_aside : Int32} {m_jobs : Int32} {m_jobsImage : Int32} {m_clocksImage : Int32} {m_heldImage : Bool} {m_hasImage : Bool} {m_tape : Nat → Int32} {m_read : Nat → Int32} {m_order : Nat → Int32} {m_width : Nat → Int32} {m_guard : Nat → Int32} {m_points : Nat → Int32} {m_stages : Nat → Int32} {m_gain : Nat → Int32} {m_undo : Nat → Int32} {m_near : Nat → Bool} {m_quarter : Nat → Int64} {m_ln : Nat → Int64} {m_angle : Nat → Int64} {m_shift : Nat → Int32} {m_digit : Nat → Int32} {m_refused : Nat → Int32} {m_job : Nat → Int32} {m_jobKept : Nat → Int32} {m_result : Nat → Int32} {m_resultKept : Nat → Int32} {m_trace : Nat → Int64} {m_traceKept : Nat → Int64} {m_jobImage : Nat → Int32} {m_resultImage : Nat → Int32} {m_traceImage : Nat → Int64} {p0 : Bool} {o : Bool × Int32 × Bool × (Nat → Int32)} (h : f_X11_hold p0 m_thrown m_hasUnit m_held m_refused = some o) : Std g l yX11_hold (.code yX11_hold cX11_hold 3 (some .boolean) :: gw) rm_X11_hold A [.ref (q 0), .int (bI p0)] (wM g q m_thrown m_length m_at m_fault m_toldWords m_orders m_value m_hasUnit m_places m_clocks m_held m_x m_y m_z m_first m_second m_aside m_jobs m_jobsImage m_clocksImage m_heldImage m_hasImage m_tape m_read m_order m_width m_guard m_points m_stages m_gain m_undo m_near m_quarter m_ln m_angle m_shift m_digit m_refused m_job m_jobKept m_result m_resultKept m_trace m_traceKept m_jobImage m_resultImage m_traceImage) (wM g q o.2.1 m_length m_at m_fault m_toldWords m_orders m_value m_hasUnit m_places m_clocks o.2.2.1 m_x m_y m_z m_first m_second m_aside m_jobs m_jobsImage m_clocksImage m_heldImage m_hasImage m_tape m_read m_order m_width m_guard m_points m_stages m_gain m_undo m_near m_quarter m_ln m_angle m_shift m_digit o.2.2.2 m_job m_jobKept m_result m_resultKept m_trace m_traceKept m_jobImage m_resultImage m_traceImage) (some (.int (bI o.1))) := by
  refine std_z (own := RX11) (by decide +kernel) rfl (Nat.le_of_ble_eq_true rfl) ?_
  intro p e s m args below meth c Q X ret H locs hP hS ls hl
  have hx := X.1
  have hb := X.2.1
  have hl : lv_has ls 3 [(0, .ref (q 0)), (1, .int (bI p0))] := hl
  have ret : ∀ {H : Heap} {locs : List Loc} {pc : Nat} {ls : Array Slot} {v : Bool} {m_thrown : Int32} {m_held : Bool} {m_refused : Nat → Int32}, some (v, m_thrown, m_held, m_refused) = some o → WP g A (wM g q m_thrown m_length m_at m_fault m_toldWords m_orders m_value m_hasUnit m_places m_clocks m_held m_x m_y m_z m_first m_second m_aside m_jobs m_jobsImage m_clocksImage m_heldImage m_hasImage m_tape m_read m_order m_width m_guard m_points m_stages m_gain m_undo m_near m_quarter m_ln m_angle m_shift m_digit m_refused m_job m_jobKept m_result m_resultKept m_trace m_traceKept m_jobImage m_resultImage m_traceImage) H → va_S A s.heap H locs → decode cX11_hold pc = .ok (.ireturn, 1) → W p l e rm_X11_hold s m args below meth c H locs 0 0 Q (F0 m pc ls [.int (bI v)]) := by
    intro H locs pc ls v m_thrown m_held m_refused h hP hS hd
    cases h
    exact ret hP hS hd
  have b20 : ∀ (m_thrown : Int32) (m_held : Bool) (m_refused : Nat → Int32) (H : Heap) (locs : List Loc) (ls : Array Slot), f_X11_hold_b20  m_hasUnit  m_thrown m_held m_refused = some o → WP g A (wM g q m_thrown m_length m_at m_fault m_toldWords m_orders m_value m_hasUnit m_places m_clocks m_held m_x m_y m_z m_first m_second m_aside m_jobs m_jobsImage m_clocksImage m_heldImage m_hasImage m_tape m_read m_order m_width m_guard m_points m_stages m_gain m_undo m_near m_quarter m_ln m_angle m_shift m_digit m_refused m_job m_jobKept m_result m_resultKept m_trace m_traceKept m_jobImage m_resultImage m_traceImage) H → va_S A s.heap H locs → lv_has ls 3 [(0, .ref (q 0))] → W p l e rm_X11_hold s m args below meth c H locs 0 0 Q (F0 m 20 ls []) := by
    intro  m_thrown m_held m_refused H locs ls h hP hS hl
    unfold f_X11_hold_b20 at h
    refine lv_aload_n hx hb dX11_hold_20 rfl (lv_at hl 0 rfl) ?_
    refine lv_aload_n hx hb dX11_hold_21 rfl (lv_at hl 0 rfl) ?_
    refine gf_X11_260_M_0 X hP dX11_hold_22 ?_
    refine jx1 h (P := fun (v1 : Int32) => ∀ ls : Array Slot, lv_has ls 3 [] → W p l e rm_X11_hold s m args below meth c H locs 0 0 Q (F0 m 33 ls [.int v1, .ref (q 0)])) ?_ ?_
    · intro v1 h ls hl
      obtain ⟨o2, hco2, h⟩ := bd_of h
      refine kV (rest := []) X dX11_hold_33 wd_7_50 mw_X11_refuse wd_7_52 wp_8_14 hP (k0 := 0) rfl rfl rfl hS (fun _ z => z) (c_X11_refuse hco2) rfl hl.1 rfl (Nat.le_of_ble_eq_true rfl) rfl rfl ⟨Nat.le_of_ble_eq_true rfl, Nat.le_of_ble_eq_true rfl⟩ (fun H locs hP _ _ hS => ?_)
      refine W.eq (g2 := F0 m 36 ls [.int o2.1]) rfl ?_
      refine lv_istore_n (lv' := [(2, .int o2.1)]) hx hb dX11_hold_36 rfl hl (by decide) rfl (fun ls hl => ?_)
      refine lv_iconst (v := 0) hx hb dX11_hold_37 rfl ?_
      exact ret h hP hS dX11_hold_38
    · intro J h
      refine rb_eq (tgt := 32) hx hb dX11_hold_25 rfl (fun c25 => ?_) (fun c25 => ?_)
      · refine lv_iconst (v := 0) hx hb dX11_hold_32 rfl ?_
        exact J _ (lt_in c25 h) ls (lv_sub hl [] rfl)
      · refine lv_iconst (v := 3) hx hb dX11_hold_28 rfl ?_
        refine lv_goto (tgt := 33) hx hb dX11_hold_29 rfl ?_
        exact J _ (lt_ip c25 h) ls (lv_sub hl [] rfl)
  unfold f_X11_hold at h
  refine lv_aload_n hx hb dX11_hold_0 rfl (lv_at hl 0 rfl) ?_
  refine lv_iconst (v := 0) hx hb dX11_hold_1 rfl ?_
  refine pf_X11_5_M_0 (v0 := (0 : Int32)) X hP hS dX11_hold_2 (fun H locs hP hS => ?_)
  refine lv_aload_n hx hb dX11_hold_5 rfl (lv_at hl 0 rfl) ?_
  refine gf_X11_260_M_0 X hP dX11_hold_6 ?_
  refine rb_eq (tgt := 20) hx hb dX11_hold_9 rfl (fun c9 => ?_) (fun c9 => ?_)
  · have h := br_n c9 h
    exact b20   (0 : Int32) m_held m_refused _ _ _ h hP hS (lv_sub hl [0] rfl)
  · have h := br_p c9 h
    refine lv_aload_n hx hb dX11_hold_12 rfl (lv_at hl 0 rfl) ?_
    refine gf_X11_270_M_0 X hP dX11_hold_13 ?_
    refine lv_iload_n hx hb dX11_hold_16 rfl (lv_at hl 1 rfl) ?_
    refine lv_icmp_ne (tgt := 39) hx hb dX11_hold_17 rfl (fun c17 => ?_) (fun c17 => ?_)
    · have h := br_n c17 h
      refine lv_aload_n hx hb dX11_hold_39 rfl (lv_at hl 0 rfl) ?_
      refine lv_iload_n hx hb dX11_hold_40 rfl (lv_at hl 1 rfl) ?_
      refine pf_X11_270_M_0 (v0 := p0) X hP hS dX11_hold_41 (fun H locs hP hS => ?_)
      refine lv_iconst (v := 1) hx hb dX11_hold_44 rfl ?_
      exact ret h hP hS dX11_hold_45
    · have h := br_p c17 h
      exact b20   (0 : Int32) m_held m_refused _ _ _ h hP hS (lv_sub hl [0] rfl)
abbrev rm_X11_howMany : Room := { frames := 1, cells := 0, slots := 0, locals := 22 }
set_option maxRecDepth 100000 in
set_option maxHeartbeats 4000000 in
theorem c_X11_howMany {g : gT} {l : Launch} {A : Nat → Prop} {q : Nat → Nat} {m_thrown : Int32} {m_length : Int32} {m_at : Int32} {m_fault : Int32} {m_toldWords : Int32} {m_orders : Int32} {m_value : Int32} {m_hasUnit : Bool} {m_places : Int32} {m_clocks : Int32} {m_held : Bool} {m_x : Int64} {m_y : Int64} {m_z : Int64} {m_first : Int64} {m_second : Int64} {m_aside : Int32} {m_jobs : Int32} {m_jobsImage : Int32} {m_clocksImage : Int32} {m_heldImage : Bool} {m_hasImage : Bool} {m_tape : Nat → Int32} {m_read : Nat → Int32} {m_order : Nat → Int32} {m_width : Nat → Int32} {m_guard : Nat → Int32} {m_points : Nat → Int32} {m_stages : Nat → Int32} {m_gain : Nat → Int32} {m_undo : Nat → Int32} {m_near : Nat → Bool} {m_quarter : Nat → Int64} {m_ln : Nat → Int64} {m_angle : Nat → Int64} {m_shift : Nat → Int32} {m_digit : Nat → Int32} {m_refused : Nat → Int32} {m_job : Nat → Int32} {m_jobKept : Nat → Int32} {m_result : Nat → Int32} {m_resultKept : Nat → Int32} {m_trace : Nat → Int64} {m_traceKept : Nat → Int64} {m_jobImage : Nat → Int32} {m_resultImage : Nat → Int32} {m_traceImage : Nat → Int64} {p0 : Int32} {o : Int32} (h : f_X11_howMany p0 m_jobs m_job = some o) : Std g l yX11_howMany (.code yX11_howMany cX11_howMany 4 (some .int) :: gw) rm_X11_howMany A [.ref (q 0), .int p0] (wM g q m_thrown m_length m_at m_fault m_toldWords m_orders m_value m_hasUnit m_places m_clocks m_held m_x m_y m_z m_first m_second m_aside m_jobs m_jobsImage m_clocksImage m_heldImage m_hasImage m_tape m_read m_order m_width m_guard m_points m_stages m_gain m_undo m_near m_quarter m_ln m_angle m_shift m_digit m_refused m_job m_jobKept m_result m_resultKept m_trace m_traceKept m_jobImage m_resultImage m_traceImage) (wM g q m_thrown m_length m_at m_fault m_toldWords m_orders m_value m_hasUnit m_places m_clocks m_held m_x m_y m_z m_first m_second m_aside m_jobs m_jobsImage m_clocksImage m_heldImage m_hasImage m_tape m_read m_order m_width m_guard m_points m_stages m_gain m_undo m_near m_quarter m_ln m_angle m_shift m_digit m_refused m_job m_jobKept m_result m_resultKept m_trace m_traceKept m_jobImage m_resultImage m_traceImage) (some (.int o)) := by
  refine std_i (own := RX11) (by decide +kernel) rfl (Nat.le_of_ble_eq_true rfl) ?_
  intro p e s m args below meth c Q X ret H locs hP hS ls hl
  have hx := X.1
  have hb := X.2.1
  have hl : lv_has ls 4 [(0, .ref (q 0)), (1, .int p0)] := hl
  have ret : ∀ {H : Heap} {locs : List Loc} {pc : Nat} {ls : Array Slot} {v : Int32} , some (v) = some o → WP g A (wM g q m_thrown m_length m_at m_fault m_toldWords m_orders m_value m_hasUnit m_places m_clocks m_held m_x m_y m_z m_first m_second m_aside m_jobs m_jobsImage m_clocksImage m_heldImage m_hasImage m_tape m_read m_order m_width m_guard m_points m_stages m_gain m_undo m_near m_quarter m_ln m_angle m_shift m_digit m_refused m_job m_jobKept m_result m_resultKept m_trace m_traceKept m_jobImage m_resultImage m_traceImage) H → va_S A s.heap H locs → decode cX11_howMany pc = .ok (.ireturn, 1) → W p l e rm_X11_howMany s m args below meth c H locs 0 0 Q (F0 m pc ls [.int v]) := by
    intro H locs pc ls v h hP hS hd
    cases h
    exact ret hP hS hd
  have l4 : ∀ (n : Nat), ∀ (x1 : Int32) (x2 : Int32) (x3 : Int32) (H : Heap) (locs : List Loc) (ls : Array Slot), f_X11_howMany_l4  m_jobs m_job  n x1 x2 x3 = some o → WP g A (wM g q m_thrown m_length m_at m_fault m_toldWords m_orders m_value m_hasUnit m_places m_clocks m_held m_x m_y m_z m_first m_second m_aside m_jobs m_jobsImage m_clocksImage m_heldImage m_hasImage m_tape m_read m_order m_width m_guard m_points m_stages m_gain m_undo m_near m_quarter m_ln m_angle m_shift m_digit m_refused m_job m_jobKept m_result m_resultKept m_trace m_traceKept m_jobImage m_resultImage m_traceImage) H → va_S A s.heap H locs → lv_has ls 4 [(0, .ref (q 0)), (1, .int x1), (2, .int x2), (3, .int x3)] → W p l e rm_X11_howMany s m args below meth c H locs 0 0 Q (F0 m 4 ls []) := by
    intro  n
    induction n with
    | zero =>
      intro x1 x2 x3 H locs ls h
      exact nz_of h
    | succ n ih =>
      intro x1 x2 x3 H locs ls h hP hS hl
      rw [f_X11_howMany_l4] at h
      refine lv_iload_n hx hb dX11_howMany_4 rfl (lv_at hl 3 rfl) ?_
      refine lv_aload_n hx hb dX11_howMany_5 rfl (lv_at hl 0 rfl) ?_
      refine gf_X11_273_M_0 X hP dX11_howMany_6 ?_
      refine lv_icmp_ge (tgt := 36) hx hb dX11_howMany_9 rfl (fun c9 => ?_) (fun c9 => ?_)
      · have h := br_p c9 h
        refine lv_iload_n hx hb dX11_howMany_36 rfl (lv_at hl 2 rfl) ?_
        exact ret h hP hS dX11_howMany_37
      · have h := br_n c9 h
        refine lv_iload_n hx hb dX11_howMany_12 rfl (lv_at hl 2 rfl) ?_
        refine lv_aload_n hx hb dX11_howMany_13 rfl (lv_at hl 0 rfl) ?_
        refine lv_iload_n hx hb dX11_howMany_14 rfl (lv_at hl 3 rfl) ?_
        refine lv_iconst (v := 4) hx hb dX11_howMany_15 rfl ?_
        obtain ⟨o1, hco1, h⟩ := bd_of h
        refine kV (rest := [.int x2]) X dX11_howMany_16 wd_7_78 mw_X11_of wd_7_80 wp_9_3 hP (k0 := 0) rfl rfl rfl hS (fun _ z => z) (c_X11_of hco1) rfl hl.1 rfl (Nat.le_of_ble_eq_true rfl) rfl rfl ⟨Nat.le_of_ble_eq_true rfl, Nat.le_of_ble_eq_true rfl⟩ (fun H locs hP _ _ hS => ?_)
        refine W.eq (g2 := F0 m 19 ls [.int o1, .int x2]) rfl ?_
        refine lv_iload_n hx hb dX11_howMany_19 rfl (lv_at hl 1 rfl) ?_
        refine jx1 h (P := fun (v2 : Bool) => ∀ ls : Array Slot, lv_has ls 4 [(0, .ref (q 0)), (1, .int x1), (3, .int x3)] → W p l e rm_X11_howMany s m args below meth c H locs 0 0 Q (F0 m 28 ls [.int (bI v2), .int x2])) ?_ ?_
        · intro v2 h ls hl
          refine lv_iadd hx hb dX11_howMany_28 ?_
          refine lv_topi (fun v3 ev3 => ?_)
          have h := lt_at ev3 h
          refine lv_istore_n (lv' := [(2, .int v3), (0, .ref (q 0)), (1, .int x1), (3, .int x3)]) hx hb dX11_howMany_29 rfl hl (by decide) rfl (fun ls hl => ?_)
          obtain ⟨v4, ev4⟩ : ∃ z : Int32, z = (x3 + 1) := ⟨_, rfl⟩
          have h := lt_at ev4 h
          refine lv_iinc (v := v4) (lv' := [(3, .int v4), (2, .int v3), (0, .ref (q 0)), (1, .int x1)]) hx hb dX11_howMany_30 hl (k := 3) rfl (by rw [ev4]; rfl) (by decide) rfl (fun ls hl => ?_)
          refine lv_goto (tgt := 4) hx hb dX11_howMany_33 rfl ?_
          exact ih x1 v3 v4 _ _ _ h hP hS (lv_sub hl [2, 3, 1, 0] rfl)
        · intro J h
          refine lv_icmp_ne (tgt := 27) hx hb dX11_howMany_20 rfl (fun c20 => ?_) (fun c20 => ?_)
          · refine lv_iconst (v := 0) hx hb dX11_howMany_27 rfl ?_
            exact J _ (lt_in c20 h) ls (lv_sub hl [0, 1, 3] rfl)
          · refine lv_iconst (v := 1) hx hb dX11_howMany_23 rfl ?_
            refine lv_goto (tgt := 28) hx hb dX11_howMany_24 rfl ?_
            exact J _ (lt_ip c20 h) ls (lv_sub hl [0, 1, 3] rfl)
  unfold f_X11_howMany at h
  refine lv_iconst (v := 0) hx hb dX11_howMany_0 rfl ?_
  refine lv_istore_n (lv' := [(2, .int 0), (0, .ref (q 0)), (1, .int p0)]) hx hb dX11_howMany_1 rfl hl (by decide) rfl (fun ls hl => ?_)
  refine lv_iconst (v := 0) hx hb dX11_howMany_2 rfl ?_
  refine lv_istore_n (lv' := [(3, .int 0), (2, .int 0), (0, .ref (q 0)), (1, .int p0)]) hx hb dX11_howMany_3 rfl hl (by decide) rfl (fun ls hl => ?_)
  exact l4  FU p0 (0 : Int32) (0 : Int32) _ _ _ h hP hS (lv_sub hl [2, 3, 1, 0] rfl)
abbrev rm_X11_rule : Room := { frames := 2, cells := 0, slots := 0, locals := 45 }
set_option maxRecDepth 100000 in
set_option maxHeartbeats 4000000 in
theorem c_X11_rule {g : gT} {l : Launch} {A : Nat → Prop} {q : Nat → Nat} {m_thrown : Int32} {m_length : Int32} {m_at : Int32} {m_fault : Int32} {m_toldWords : Int32} {m_orders : Int32} {m_value : Int32} {m_hasUnit : Bool} {m_places : Int32} {m_clocks : Int32} {m_held : Bool} {m_x : Int64} {m_y : Int64} {m_z : Int64} {m_first : Int64} {m_second : Int64} {m_aside : Int32} {m_jobs : Int32} {m_jobsImage : Int32} {m_clocksImage : Int32} {m_heldImage : Bool} {m_hasImage : Bool} {m_tape : Nat → Int32} {m_read : Nat → Int32} {m_order : Nat → Int32} {m_width : Nat → Int32} {m_guard : Nat → Int32} {m_points : Nat → Int32} {m_stages : Nat → Int32} {m_gain : Nat → Int32} {m_undo : Nat → Int32} {m_near : Nat → Bool} {m_quarter : Nat → Int64} {m_ln : Nat → Int64} {m_angle : Nat → Int64} {m_shift : Nat → Int32} {m_digit : Nat → Int32} {m_refused : Nat → Int32} {m_job : Nat → Int32} {m_jobKept : Nat → Int32} {m_result : Nat → Int32} {m_resultKept : Nat → Int32} {m_trace : Nat → Int64} {m_traceKept : Nat → Int64} {m_jobImage : Nat → Int32} {m_resultImage : Nat → Int32} {m_traceImage : Nat → Int64} {p0 : Int32} {o : Int32 × Int32} (h : f_X11_rule p0 m_thrown m_hasUnit m_places m_clocks m_held m_jobs m_width m_guard m_stages m_near m_job = some o) : Std g l yX11_rule (.code yX11_rule cX11_rule 2 (some .int) :: gw) rm_X11_rule A [.ref (q 0), .int p0] (wM g q m_thrown m_length m_at m_fault m_toldWords m_orders m_value m_hasUnit m_places m_clocks m_held m_x m_y m_z m_first m_second m_aside m_jobs m_jobsImage m_clocksImage m_heldImage m_hasImage m_tape m_read m_order m_width m_guard m_points m_stages m_gain m_undo m_near m_quarter m_ln m_angle m_shift m_digit m_refused m_job m_jobKept m_result m_resultKept m_trace m_traceKept m_jobImage m_resultImage m_traceImage) (wM g q o.2 m_length m_at m_fault m_toldWords m_orders m_value m_hasUnit m_places m_clocks m_held m_x m_y m_z m_first m_second m_aside m_jobs m_jobsImage m_clocksImage m_heldImage m_hasImage m_tape m_read m_order m_width m_guard m_points m_stages m_gain m_undo m_near m_quarter m_ln m_angle m_shift m_digit m_refused m_job m_jobKept m_result m_resultKept m_trace m_traceKept m_jobImage m_resultImage m_traceImage) (some (.int o.1)) := by
  refine std_i (own := RX11) (by decide +kernel) rfl (Nat.le_of_ble_eq_true rfl) ?_
  intro p e s m args below meth c Q X ret H locs hP hS ls hl
  have hx := X.1
  have hb := X.2.1
  have hl : lv_has ls 2 [(0, .ref (q 0)), (1, .int p0)] := hl
  have ret : ∀ {H : Heap} {locs : List Loc} {pc : Nat} {ls : Array Slot} {v : Int32} {m_thrown : Int32}, some (v, m_thrown) = some o → WP g A (wM g q m_thrown m_length m_at m_fault m_toldWords m_orders m_value m_hasUnit m_places m_clocks m_held m_x m_y m_z m_first m_second m_aside m_jobs m_jobsImage m_clocksImage m_heldImage m_hasImage m_tape m_read m_order m_width m_guard m_points m_stages m_gain m_undo m_near m_quarter m_ln m_angle m_shift m_digit m_refused m_job m_jobKept m_result m_resultKept m_trace m_traceKept m_jobImage m_resultImage m_traceImage) H → va_S A s.heap H locs → decode cX11_rule pc = .ok (.ireturn, 1) → W p l e rm_X11_rule s m args below meth c H locs 0 0 Q (F0 m pc ls [.int v]) := by
    intro H locs pc ls v m_thrown h hP hS hd
    cases h
    exact ret hP hS hd
  unfold f_X11_rule at h
  refine lv_aload_n hx hb dX11_rule_0 rfl (lv_at hl 0 rfl) ?_
  refine lv_iconst (v := 0) hx hb dX11_rule_1 rfl ?_
  refine pf_X11_5_M_0 (v0 := (0 : Int32)) X hP hS dX11_rule_2 (fun H locs hP hS => ?_)
  refine lv_aload_n hx hb dX11_rule_5 rfl (lv_at hl 0 rfl) ?_
  refine gf_X11_260_M_0 X hP dX11_rule_6 ?_
  refine rb_ne (tgt := 14) hx hb dX11_rule_9 rfl (fun c9 => ?_) (fun c9 => ?_)
  · have h := br_p c9 h
    refine lv_iload_n hx hb dX11_rule_14 rfl (lv_at hl 1 rfl) ?_
    by_cases c15_0 : p0 = 0
    · have h := br_p c15_0 h
      refine lv_tableIn (off := 61) (tgt := 76) hx hb dX11_rule_15 (by rw [c15_0]; decide) (by rw [c15_0]; decide) (by rw [c15_0]; rfl) rfl ?_
      refine lv_aload_n hx hb dX11_rule_76 rfl (lv_at hl 0 rfl) ?_
      refine gf_X11_192_M_0 X hP dX11_rule_77 ?_
      refine lv_iconst (v := 0) hx hb dX11_rule_80 rfl ?_
      obtain ⟨hi81, h⟩ := gv_of h
      refine al_M_4 X hP hi81 dX11_rule_81 ?_
      exact ret h hP hS dX11_rule_82
    have h := br_n c15_0 h
    by_cases c15_1 : p0 = 1
    · have h := br_p c15_1 h
      refine lv_tableIn (off := 68) (tgt := 83) hx hb dX11_rule_15 (by rw [c15_1]; decide) (by rw [c15_1]; decide) (by rw [c15_1]; rfl) rfl ?_
      refine lv_aload_n hx hb dX11_rule_83 rfl (lv_at hl 0 rfl) ?_
      refine gf_X11_194_M_0 X hP dX11_rule_84 ?_
      refine lv_iconst (v := 0) hx hb dX11_rule_87 rfl ?_
      obtain ⟨hi88, h⟩ := gv_of h
      refine al_M_5 X hP hi88 dX11_rule_88 ?_
      exact ret h hP hS dX11_rule_89
    have h := br_n c15_1 h
    by_cases c15_2 : p0 = 2
    · have h := br_p c15_2 h
      refine lv_tableIn (off := 75) (tgt := 90) hx hb dX11_rule_15 (by rw [c15_2]; decide) (by rw [c15_2]; decide) (by rw [c15_2]; rfl) rfl ?_
      refine lv_aload_n hx hb dX11_rule_90 rfl (lv_at hl 0 rfl) ?_
      refine gf_X11_171_M_0 X hP dX11_rule_91 ?_
      refine lv_iconst (v := 0) hx hb dX11_rule_94 rfl ?_
      obtain ⟨hi95, h⟩ := gv_of h
      refine al_M_7 X hP hi95 dX11_rule_95 ?_
      exact ret h hP hS dX11_rule_96
    have h := br_n c15_2 h
    by_cases c15_3 : p0 = 3
    · have h := br_p c15_3 h
      refine lv_tableIn (off := 82) (tgt := 97) hx hb dX11_rule_15 (by rw [c15_3]; decide) (by rw [c15_3]; decide) (by rw [c15_3]; rfl) rfl ?_
      refine lv_aload_n hx hb dX11_rule_97 rfl (lv_at hl 0 rfl) ?_
      refine gf_X11_264_M_0 X hP dX11_rule_98 ?_
      exact ret h hP hS dX11_rule_101
    have h := br_n c15_3 h
    by_cases c15_4 : p0 = 4
    · have h := br_p c15_4 h
      refine lv_tableIn (off := 87) (tgt := 102) hx hb dX11_rule_15 (by rw [c15_4]; decide) (by rw [c15_4]; decide) (by rw [c15_4]; rfl) rfl ?_
      refine lv_aload_n hx hb dX11_rule_102 rfl (lv_at hl 0 rfl) ?_
      refine gf_X11_196_M_0 X hP dX11_rule_103 ?_
      refine lv_iconst (v := 0) hx hb dX11_rule_106 rfl ?_
      obtain ⟨hi107, h⟩ := gv_of h
      refine al_M_10 X hP hi107 dX11_rule_107 ?_
      refine jx1 h (P := fun (v1 : Bool) => ∀ ls : Array Slot, lv_has ls 2 [] → W p l e rm_X11_rule s m args below meth c H locs 0 0 Q (F0 m 116 ls [.int (bI v1)])) ?_ ?_
      · intro v1 h ls hl
        exact ret h hP hS dX11_rule_116
      · intro J h
        refine rb_eq (tgt := 115) hx hb dX11_rule_108 rfl (fun c108 => ?_) (fun c108 => ?_)
        · refine lv_iconst (v := 0) hx hb dX11_rule_115 rfl ?_
          exact J _ (lt_in c108 h) ls (lv_sub hl [] rfl)
        · refine lv_iconst (v := 1) hx hb dX11_rule_111 rfl ?_
          refine lv_goto (tgt := 116) hx hb dX11_rule_112 rfl ?_
          exact J _ (lt_ip c108 h) ls (lv_sub hl [] rfl)
    have h := br_n c15_4 h
    by_cases c15_5 : p0 = 5
    · have h := br_p c15_5 h
      refine lv_tableIn (off := 102) (tgt := 117) hx hb dX11_rule_15 (by rw [c15_5]; decide) (by rw [c15_5]; decide) (by rw [c15_5]; rfl) rfl ?_
      refine lv_aload_n hx hb dX11_rule_117 rfl (lv_at hl 0 rfl) ?_
      refine gf_X11_267_M_0 X hP dX11_rule_118 ?_
      exact ret h hP hS dX11_rule_121
    have h := br_n c15_5 h
    by_cases c15_6 : p0 = 6
    · have h := br_p c15_6 h
      refine lv_tableIn (off := 107) (tgt := 122) hx hb dX11_rule_15 (by rw [c15_6]; decide) (by rw [c15_6]; decide) (by rw [c15_6]; rfl) rfl ?_
      refine lv_aload_n hx hb dX11_rule_122 rfl (lv_at hl 0 rfl) ?_
      refine gf_X11_273_M_0 X hP dX11_rule_123 ?_
      exact ret h hP hS dX11_rule_126
    have h := br_n c15_6 h
    by_cases c15_7 : p0 = 7
    · have h := br_p c15_7 h
      refine lv_tableIn (off := 112) (tgt := 127) hx hb dX11_rule_15 (by rw [c15_7]; decide) (by rw [c15_7]; decide) (by rw [c15_7]; rfl) rfl ?_
      refine lv_aload_n hx hb dX11_rule_127 rfl (lv_at hl 0 rfl) ?_
      refine lv_iconst (v := 0) hx hb dX11_rule_128 rfl ?_
      obtain ⟨o2, hco2, h⟩ := bd_of h
      refine kV (rest := []) X dX11_rule_129 wd_7_139 mw_X11_howMany wd_7_141 wp_9_13 hP (k0 := 0) rfl rfl rfl hS (fun _ z => z) (c_X11_howMany hco2) rfl hl.1 rfl (Nat.le_of_ble_eq_true rfl) rfl rfl ⟨Nat.le_of_ble_eq_true rfl, Nat.le_of_ble_eq_true rfl⟩ (fun H locs hP _ _ hS => ?_)
      refine W.eq (g2 := F0 m 132 ls [.int o2]) rfl ?_
      exact ret h hP hS dX11_rule_132
    have h := br_n c15_7 h
    by_cases c15_8 : p0 = 8
    · have h := br_p c15_8 h
      refine lv_tableIn (off := 118) (tgt := 133) hx hb dX11_rule_15 (by rw [c15_8]; decide) (by rw [c15_8]; decide) (by rw [c15_8]; rfl) rfl ?_
      refine lv_aload_n hx hb dX11_rule_133 rfl (lv_at hl 0 rfl) ?_
      refine lv_iconst (v := 1) hx hb dX11_rule_134 rfl ?_
      obtain ⟨o3, hco3, h⟩ := bd_of h
      refine kV (rest := []) X dX11_rule_135 wd_7_139 mw_X11_howMany wd_7_141 wp_9_13 hP (k0 := 0) rfl rfl rfl hS (fun _ z => z) (c_X11_howMany hco3) rfl hl.1 rfl (Nat.le_of_ble_eq_true rfl) rfl rfl ⟨Nat.le_of_ble_eq_true rfl, Nat.le_of_ble_eq_true rfl⟩ (fun H locs hP _ _ hS => ?_)
      refine W.eq (g2 := F0 m 138 ls [.int o3]) rfl ?_
      exact ret h hP hS dX11_rule_138
    have h := br_n c15_8 h
    by_cases c15_9 : p0 = 9
    · have h := br_p c15_9 h
      refine lv_tableIn (off := 124) (tgt := 139) hx hb dX11_rule_15 (by rw [c15_9]; decide) (by rw [c15_9]; decide) (by rw [c15_9]; rfl) rfl ?_
      refine lv_aload_n hx hb dX11_rule_139 rfl (lv_at hl 0 rfl) ?_
      refine lv_iconst (v := 2) hx hb dX11_rule_140 rfl ?_
      obtain ⟨o4, hco4, h⟩ := bd_of h
      refine kV (rest := []) X dX11_rule_141 wd_7_139 mw_X11_howMany wd_7_141 wp_9_13 hP (k0 := 0) rfl rfl rfl hS (fun _ z => z) (c_X11_howMany hco4) rfl hl.1 rfl (Nat.le_of_ble_eq_true rfl) rfl rfl ⟨Nat.le_of_ble_eq_true rfl, Nat.le_of_ble_eq_true rfl⟩ (fun H locs hP _ _ hS => ?_)
      refine W.eq (g2 := F0 m 144 ls [.int o4]) rfl ?_
      exact ret h hP hS dX11_rule_144
    have h := br_n c15_9 h
    by_cases c15_10 : p0 = 10
    · have h := br_p c15_10 h
      refine lv_tableIn (off := 130) (tgt := 145) hx hb dX11_rule_15 (by rw [c15_10]; decide) (by rw [c15_10]; decide) (by rw [c15_10]; rfl) rfl ?_
      refine lv_aload_n hx hb dX11_rule_145 rfl (lv_at hl 0 rfl) ?_
      refine gf_X11_270_M_0 X hP dX11_rule_146 ?_
      refine jx1 h (P := fun (v5 : Bool) => ∀ ls : Array Slot, lv_has ls 2 [] → W p l e rm_X11_rule s m args below meth c H locs 0 0 Q (F0 m 157 ls [.int (bI v5)])) ?_ ?_
      · intro v5 h ls hl
        exact ret h hP hS dX11_rule_157
      · intro J h
        refine rb_eq (tgt := 156) hx hb dX11_rule_149 rfl (fun c149 => ?_) (fun c149 => ?_)
        · refine lv_iconst (v := 0) hx hb dX11_rule_156 rfl ?_
          exact J _ (lt_in c149 h) ls (lv_sub hl [] rfl)
        · refine lv_iconst (v := 1) hx hb dX11_rule_152 rfl ?_
          refine lv_goto (tgt := 157) hx hb dX11_rule_153 rfl ?_
          exact J _ (lt_ip c149 h) ls (lv_sub hl [] rfl)
    have h := br_n c15_10 h
    by_cases c15_11 : p0 = 11
    · have h := br_p c15_11 h
      refine lv_tableIn (off := 143) (tgt := 158) hx hb dX11_rule_15 (by rw [c15_11]; decide) (by rw [c15_11]; decide) (by rw [c15_11]; rfl) rfl ?_
      refine lv_aload_n hx hb dX11_rule_158 rfl (lv_at hl 0 rfl) ?_
      refine lv_iconst (v := 3) hx hb dX11_rule_159 rfl ?_
      obtain ⟨o6, hco6, h⟩ := bd_of h
      refine kV (rest := []) X dX11_rule_160 wd_7_139 mw_X11_howMany wd_7_141 wp_9_13 hP (k0 := 0) rfl rfl rfl hS (fun _ z => z) (c_X11_howMany hco6) rfl hl.1 rfl (Nat.le_of_ble_eq_true rfl) rfl rfl ⟨Nat.le_of_ble_eq_true rfl, Nat.le_of_ble_eq_true rfl⟩ (fun H locs hP _ _ hS => ?_)
      refine W.eq (g2 := F0 m 163 ls [.int o6]) rfl ?_
      exact ret h hP hS dX11_rule_163
    have h := br_n c15_11 h
    refine lv_tableOut (tgt := 164) hx hb dX11_rule_15 (by have := lv_neT (a := 0) c15_0 rfl; have := lv_neT (a := 1) c15_1 rfl; have := lv_neT (a := 2) c15_2 rfl; have := lv_neT (a := 3) c15_3 rfl; have := lv_neT (a := 4) c15_4 rfl; have := lv_neT (a := 5) c15_5 rfl; have := lv_neT (a := 6) c15_6 rfl; have := lv_neT (a := 7) c15_7 rfl; have := lv_neT (a := 8) c15_8 rfl; have := lv_neT (a := 9) c15_9 rfl; have := lv_neT (a := 10) c15_10 rfl; have := lv_neT (a := 11) c15_11 rfl; omega) rfl ?_
    refine lv_iconst (v := (-1)) hx hb dX11_rule_164 rfl ?_
    exact ret h hP hS dX11_rule_165
  · have h := br_n c9 h
    refine lv_iconst (v := (-1)) hx hb dX11_rule_12 rfl ?_
    exact ret h hP hS dX11_rule_13
abbrev rm_X11_told : Room := { frames := 2, cells := 0, slots := 0, locals := 46 }
set_option maxRecDepth 100000 in
set_option maxHeartbeats 4000000 in
theorem c_X11_told {g : gT} {l : Launch} {A : Nat → Prop} {q : Nat → Nat} {m_thrown : Int32} {m_length : Int32} {m_at : Int32} {m_fault : Int32} {m_toldWords : Int32} {m_orders : Int32} {m_value : Int32} {m_hasUnit : Bool} {m_places : Int32} {m_clocks : Int32} {m_held : Bool} {m_x : Int64} {m_y : Int64} {m_z : Int64} {m_first : Int64} {m_second : Int64} {m_aside : Int32} {m_jobs : Int32} {m_jobsImage : Int32} {m_clocksImage : Int32} {m_heldImage : Bool} {m_hasImage : Bool} {m_tape : Nat → Int32} {m_read : Nat → Int32} {m_order : Nat → Int32} {m_width : Nat → Int32} {m_guard : Nat → Int32} {m_points : Nat → Int32} {m_stages : Nat → Int32} {m_gain : Nat → Int32} {m_undo : Nat → Int32} {m_near : Nat → Bool} {m_quarter : Nat → Int64} {m_ln : Nat → Int64} {m_angle : Nat → Int64} {m_shift : Nat → Int32} {m_digit : Nat → Int32} {m_refused : Nat → Int32} {m_job : Nat → Int32} {m_jobKept : Nat → Int32} {m_result : Nat → Int32} {m_resultKept : Nat → Int32} {m_trace : Nat → Int64} {m_traceKept : Nat → Int64} {m_jobImage : Nat → Int32} {m_resultImage : Nat → Int32} {m_traceImage : Nat → Int64} {p0 : Int32} {p1 : Int32} {o : Int32 × Int32} (h : f_X11_told p0 p1 m_thrown m_hasUnit m_jobs m_job = some o) : Std g l yX11_told (.code yX11_told cX11_told 3 (some .int) :: gw) rm_X11_told A [.ref (q 0), .int p0, .int p1] (wM g q m_thrown m_length m_at m_fault m_toldWords m_orders m_value m_hasUnit m_places m_clocks m_held m_x m_y m_z m_first m_second m_aside m_jobs m_jobsImage m_clocksImage m_heldImage m_hasImage m_tape m_read m_order m_width m_guard m_points m_stages m_gain m_undo m_near m_quarter m_ln m_angle m_shift m_digit m_refused m_job m_jobKept m_result m_resultKept m_trace m_traceKept m_jobImage m_resultImage m_traceImage) (wM g q o.2 m_length m_at m_fault m_toldWords m_orders m_value m_hasUnit m_places m_clocks m_held m_x m_y m_z m_first m_second m_aside m_jobs m_jobsImage m_clocksImage m_heldImage m_hasImage m_tape m_read m_order m_width m_guard m_points m_stages m_gain m_undo m_near m_quarter m_ln m_angle m_shift m_digit m_refused m_job m_jobKept m_result m_resultKept m_trace m_traceKept m_jobImage m_resultImage m_traceImage) (some (.int o.1)) := by
  refine std_i (own := RX11) (by decide +kernel) rfl (Nat.le_of_ble_eq_true rfl) ?_
  intro p e s m args below meth c Q X ret H locs hP hS ls hl
  have hx := X.1
  have hb := X.2.1
  have hl : lv_has ls 3 [(0, .ref (q 0)), (1, .int p0), (2, .int p1)] := hl
  have ret : ∀ {H : Heap} {locs : List Loc} {pc : Nat} {ls : Array Slot} {v : Int32} {m_thrown : Int32}, some (v, m_thrown) = some o → WP g A (wM g q m_thrown m_length m_at m_fault m_toldWords m_orders m_value m_hasUnit m_places m_clocks m_held m_x m_y m_z m_first m_second m_aside m_jobs m_jobsImage m_clocksImage m_heldImage m_hasImage m_tape m_read m_order m_width m_guard m_points m_stages m_gain m_undo m_near m_quarter m_ln m_angle m_shift m_digit m_refused m_job m_jobKept m_result m_resultKept m_trace m_traceKept m_jobImage m_resultImage m_traceImage) H → va_S A s.heap H locs → decode cX11_told pc = .ok (.ireturn, 1) → W p l e rm_X11_told s m args below meth c H locs 0 0 Q (F0 m pc ls [.int v]) := by
    intro H locs pc ls v m_thrown h hP hS hd
    cases h
    exact ret hP hS hd
  have b26 : ∀ (x1 : Int32) (x2 : Int32) (t1 : Bool) (m_thrown : Int32) (H : Heap) (locs : List Loc) (ls : Array Slot), f_X11_told_b26  m_hasUnit m_jobs m_job  x1 x2 t1 m_thrown = some o → WP g A (wM g q m_thrown m_length m_at m_fault m_toldWords m_orders m_value m_hasUnit m_places m_clocks m_held m_x m_y m_z m_first m_second m_aside m_jobs m_jobsImage m_clocksImage m_heldImage m_hasImage m_tape m_read m_order m_width m_guard m_points m_stages m_gain m_undo m_near m_quarter m_ln m_angle m_shift m_digit m_refused m_job m_jobKept m_result m_resultKept m_trace m_traceKept m_jobImage m_resultImage m_traceImage) H → va_S A s.heap H locs → lv_has ls 3 [(0, .ref (q 0)), (1, .int x1), (2, .int x2)] → W p l e rm_X11_told s m args below meth c H locs 0 0 Q (F0 m 26 ls [.int (bI t1), .ref (q 0)]) := by
    intro  x1 x2 t1 m_thrown H locs ls h hP hS hl
    unfold f_X11_told_b26 at h
    refine pf_X11_5_M_0 (v0 := (bI t1)) X hP hS dX11_told_26 (fun H locs hP hS => ?_)
    refine lv_aload_n hx hb dX11_told_29 rfl (lv_at hl 0 rfl) ?_
    refine gf_X11_5_M_0 X hP dX11_told_30 ?_
    refine lv_if_le (tgt := 38) hx hb dX11_told_33 rfl (fun c33 => ?_) (fun c33 => ?_)
    · have h := br_p c33 h
      refine lv_iload_n hx hb dX11_told_38 rfl (lv_at hl 2 rfl) ?_
      refine lv_bipush (v := 8) hx hb dX11_told_39 rfl ?_
      refine lv_icmp_ne (tgt := 55) hx hb dX11_told_41 rfl (fun c41 => ?_) (fun c41 => ?_)
      · have h := br_n c41 h
        refine lv_iload_n hx hb dX11_told_55 rfl (lv_at hl 2 rfl) ?_
        refine lv_bipush (v := 9) hx hb dX11_told_56 rfl ?_
        refine lv_icmp_ne (tgt := 81) hx hb dX11_told_58 rfl (fun c58 => ?_) (fun c58 => ?_)
        · have h := br_n c58 h
          refine lv_aload_n hx hb dX11_told_81 rfl (lv_at hl 0 rfl) ?_
          refine lv_iload_n hx hb dX11_told_82 rfl (lv_at hl 1 rfl) ?_
          refine lv_iload_n hx hb dX11_told_83 rfl (lv_at hl 2 rfl) ?_
          obtain ⟨o2, hco2, h⟩ := bd_of h
          refine kV (rest := []) X dX11_told_84 wd_7_78 mw_X11_of wd_7_80 wp_9_3 hP (k0 := 0) rfl rfl rfl hS (fun _ z => z) (c_X11_of hco2) rfl hl.1 rfl (Nat.le_of_ble_eq_true rfl) rfl rfl ⟨Nat.le_of_ble_eq_true rfl, Nat.le_of_ble_eq_true rfl⟩ (fun H locs hP _ _ hS => ?_)
          refine W.eq (g2 := F0 m 87 ls [.int o2]) rfl ?_
          exact ret h hP hS dX11_told_87
        · have h := br_p c58 h
          refine lv_aload_n hx hb dX11_told_61 rfl (lv_at hl 0 rfl) ?_
          refine lv_iload_n hx hb dX11_told_62 rfl (lv_at hl 1 rfl) ?_
          refine lv_iconst (v := 0) hx hb dX11_told_63 rfl ?_
          obtain ⟨o3, hco3, h⟩ := bd_of h
          refine kV (rest := []) X dX11_told_64 wd_7_78 mw_X11_of wd_7_80 wp_9_3 hP (k0 := 0) rfl rfl rfl hS (fun _ z => z) (c_X11_of hco3) rfl hl.1 rfl (Nat.le_of_ble_eq_true rfl) rfl rfl ⟨Nat.le_of_ble_eq_true rfl, Nat.le_of_ble_eq_true rfl⟩ (fun H locs hP _ _ hS => ?_)
          refine W.eq (g2 := F0 m 67 ls [.int o3]) rfl ?_
          obtain ⟨o4, hco4, h⟩ := bd_of h
          refine kS (rest := []) X dX11_told_67 wd_7_2 mw_X11_isTurning wd_7_3 hP hS (fun _ z => z) (c_X11_isTurning hco4) rfl hl.1 rfl (Nat.le_of_ble_eq_true rfl) rfl rfl ⟨Nat.le_of_ble_eq_true rfl, Nat.le_of_ble_eq_true rfl⟩ (fun H locs hP _ _ hS => ?_)
          refine W.eq (g2 := F0 m 70 ls [.int (bI o4)]) rfl ?_
          refine jx1 h (P := fun (v5 : Bool) => ∀ ls : Array Slot, lv_has ls 3 [] → W p l e rm_X11_told s m args below meth c H locs 0 0 Q (F0 m 87 ls [.int (bI v5)])) ?_ ?_
          · intro v5 h ls hl
            exact ret h hP hS dX11_told_87
          · intro J h
            refine rb_eq (tgt := 77) hx hb dX11_told_70 rfl (fun c70 => ?_) (fun c70 => ?_)
            · refine lv_iconst (v := 0) hx hb dX11_told_77 rfl ?_
              refine lv_goto (tgt := 87) hx hb dX11_told_78 rfl ?_
              exact J _ (lt_in c70 h) ls (lv_sub hl [] rfl)
            · refine lv_iconst (v := 1) hx hb dX11_told_73 rfl ?_
              refine lv_goto (tgt := 87) hx hb dX11_told_74 rfl ?_
              exact J _ (lt_ip c70 h) ls (lv_sub hl [] rfl)
      · have h := br_p c41 h
        refine sgO X hS (sfX X).2.2.2.2.1 wd_7_0 dX11_told_44 ?_
        refine lv_aload_n hx hb dX11_told_47 rfl (lv_at hl 0 rfl) ?_
        refine lv_iload_n hx hb dX11_told_48 rfl (lv_at hl 1 rfl) ?_
        refine lv_iconst (v := 0) hx hb dX11_told_49 rfl ?_
        obtain ⟨o6, hco6, h⟩ := bd_of h
        refine kV (rest := [.ref (g.2 9)]) X dX11_told_50 wd_7_78 mw_X11_of wd_7_80 wp_9_3 hP (k0 := 0) rfl rfl rfl hS (fun _ z => z) (c_X11_of hco6) rfl hl.1 rfl (Nat.le_of_ble_eq_true rfl) rfl rfl ⟨Nat.le_of_ble_eq_true rfl, Nat.le_of_ble_eq_true rfl⟩ (fun H locs hP _ _ hS => ?_)
        refine W.eq (g2 := F0 m 53 ls [.int o6, .ref (g.2 9)]) rfl ?_
        obtain ⟨hi53, h⟩ := gv_of h
        refine sti X hS (sfX X).2.2.2.2.2.2.2.2.2.2.2.1 hi53 dX11_told_53 ?_
        refine W.eq (g2 := F0 m 54 ls [.int (mdOf (o6).toNatClampNeg)]) rfl ?_
        exact ret h hP hS dX11_told_54
    · have h := br_n c33 h
      refine lv_iconst (v := 0) hx hb dX11_told_36 rfl ?_
      exact ret h hP hS dX11_told_37
  have b25 : ∀ (x1 : Int32) (x2 : Int32) (m_thrown : Int32) (H : Heap) (locs : List Loc) (ls : Array Slot), f_X11_told_b25  m_hasUnit m_jobs m_job  x1 x2 m_thrown = some o → WP g A (wM g q m_thrown m_length m_at m_fault m_toldWords m_orders m_value m_hasUnit m_places m_clocks m_held m_x m_y m_z m_first m_second m_aside m_jobs m_jobsImage m_clocksImage m_heldImage m_hasImage m_tape m_read m_order m_width m_guard m_points m_stages m_gain m_undo m_near m_quarter m_ln m_angle m_shift m_digit m_refused m_job m_jobKept m_result m_resultKept m_trace m_traceKept m_jobImage m_resultImage m_traceImage) H → va_S A s.heap H locs → lv_has ls 3 [(0, .ref (q 0)), (1, .int x1), (2, .int x2)] → W p l e rm_X11_told s m args below meth c H locs 0 0 Q (F0 m 25 ls [.ref (q 0)]) := by
    intro  x1 x2 m_thrown H locs ls h hP hS hl
    unfold f_X11_told_b25 at h
    refine lv_iconst (v := 1) hx hb dX11_told_25 rfl ?_
    exact b26   x1 x2 true m_thrown _ _ _ h hP hS (lv_sub hl [0, 1, 2] rfl)
  unfold f_X11_told at h
  refine lv_aload_n hx hb dX11_told_0 rfl (lv_at hl 0 rfl) ?_
  refine lv_aload_n hx hb dX11_told_1 rfl (lv_at hl 0 rfl) ?_
  refine lv_iload_n hx hb dX11_told_2 rfl (lv_at hl 1 rfl) ?_
  obtain ⟨o1, hco1, h⟩ := bd_of h
  refine kV (rest := [.ref (q 0)]) X dX11_told_3 wd_7_74 mw_X11_isJob wd_7_76 wp_9_2 hP (k0 := 0) rfl rfl rfl hS (fun _ z => z) (c_X11_isJob hco1) rfl hl.1 rfl (Nat.le_of_ble_eq_true rfl) rfl rfl ⟨Nat.le_of_ble_eq_true rfl, Nat.le_of_ble_eq_true rfl⟩ (fun H locs hP _ _ hS => ?_)
  refine W.eq (g2 := F0 m 6 ls [.int (bI o1), .ref (q 0)]) rfl ?_
  refine rb_eq (tgt := 25) hx hb dX11_told_6 rfl (fun c6 => ?_) (fun c6 => ?_)
  · have h := br_n c6 h
    exact b25   p0 p1 m_thrown _ _ _ h hP hS (lv_sub hl [0, 1, 2] rfl)
  · have h := br_p c6 h
    refine lv_iload_n hx hb dX11_told_9 rfl (lv_at hl 2 rfl) ?_
    refine lv_i2l hx hb dX11_told_10 rfl ?_
    refine lv_lconst (v := 0) hx hb dX11_told_11 rfl ?_
    refine lv_ldc2 (v := 9) hx hb X.2.2.2.1 (X.2.2.2.2.1 _ wd_7_147) dX11_told_12 ?_
    obtain ⟨o7, hco7, h⟩ := bd_of h
    refine kS (rest := [.ref (q 0)]) X dX11_told_15 wd_5_153 mw_X11_isIn wd_5_154 hP hS (fun _ z => z) (c_X11_isIn hco7) rfl hl.1 rfl (Nat.le_of_ble_eq_true rfl) rfl rfl ⟨Nat.le_of_ble_eq_true rfl, Nat.le_of_ble_eq_true rfl⟩ (fun H locs hP _ _ hS => ?_)
    refine W.eq (g2 := F0 m 18 ls [.int (bI o7), .ref (q 0)]) rfl ?_
    refine jx1 h (P := fun (v8 : Bool) => ∀ ls : Array Slot, lv_has ls 3 [(0, .ref (q 0)), (1, .int p0), (2, .int p1)] → W p l e rm_X11_told s m args below meth c H locs 0 0 Q (F0 m 26 ls [.int (bI v8), .ref (q 0)])) ?_ ?_
    · intro v8 h ls hl
      refine pf_X11_5_M_0 (v0 := (bI v8)) X hP hS dX11_told_26 (fun H locs hP hS => ?_)
      refine lv_aload_n hx hb dX11_told_29 rfl (lv_at hl 0 rfl) ?_
      refine gf_X11_5_M_0 X hP dX11_told_30 ?_
      refine lv_if_le (tgt := 38) hx hb dX11_told_33 rfl (fun c33 => ?_) (fun c33 => ?_)
      · have h := br_p c33 h
        refine lv_iload_n hx hb dX11_told_38 rfl (lv_at hl 2 rfl) ?_
        refine lv_bipush (v := 8) hx hb dX11_told_39 rfl ?_
        refine lv_icmp_ne (tgt := 55) hx hb dX11_told_41 rfl (fun c41 => ?_) (fun c41 => ?_)
        · have h := br_n c41 h
          refine lv_iload_n hx hb dX11_told_55 rfl (lv_at hl 2 rfl) ?_
          refine lv_bipush (v := 9) hx hb dX11_told_56 rfl ?_
          refine lv_icmp_ne (tgt := 81) hx hb dX11_told_58 rfl (fun c58 => ?_) (fun c58 => ?_)
          · have h := br_n c58 h
            refine lv_aload_n hx hb dX11_told_81 rfl (lv_at hl 0 rfl) ?_
            refine lv_iload_n hx hb dX11_told_82 rfl (lv_at hl 1 rfl) ?_
            refine lv_iload_n hx hb dX11_told_83 rfl (lv_at hl 2 rfl) ?_
            obtain ⟨o9, hco9, h⟩ := bd_of h
            refine kV (rest := []) X dX11_told_84 wd_7_78 mw_X11_of wd_7_80 wp_9_3 hP (k0 := 0) rfl rfl rfl hS (fun _ z => z) (c_X11_of hco9) rfl hl.1 rfl (Nat.le_of_ble_eq_true rfl) rfl rfl ⟨Nat.le_of_ble_eq_true rfl, Nat.le_of_ble_eq_true rfl⟩ (fun H locs hP _ _ hS => ?_)
            refine W.eq (g2 := F0 m 87 ls [.int o9]) rfl ?_
            exact ret h hP hS dX11_told_87
          · have h := br_p c58 h
            refine lv_aload_n hx hb dX11_told_61 rfl (lv_at hl 0 rfl) ?_
            refine lv_iload_n hx hb dX11_told_62 rfl (lv_at hl 1 rfl) ?_
            refine lv_iconst (v := 0) hx hb dX11_told_63 rfl ?_
            obtain ⟨o10, hco10, h⟩ := bd_of h
            refine kV (rest := []) X dX11_told_64 wd_7_78 mw_X11_of wd_7_80 wp_9_3 hP (k0 := 0) rfl rfl rfl hS (fun _ z => z) (c_X11_of hco10) rfl hl.1 rfl (Nat.le_of_ble_eq_true rfl) rfl rfl ⟨Nat.le_of_ble_eq_true rfl, Nat.le_of_ble_eq_true rfl⟩ (fun H locs hP _ _ hS => ?_)
            refine W.eq (g2 := F0 m 67 ls [.int o10]) rfl ?_
            obtain ⟨o11, hco11, h⟩ := bd_of h
            refine kS (rest := []) X dX11_told_67 wd_7_2 mw_X11_isTurning wd_7_3 hP hS (fun _ z => z) (c_X11_isTurning hco11) rfl hl.1 rfl (Nat.le_of_ble_eq_true rfl) rfl rfl ⟨Nat.le_of_ble_eq_true rfl, Nat.le_of_ble_eq_true rfl⟩ (fun H locs hP _ _ hS => ?_)
            refine W.eq (g2 := F0 m 70 ls [.int (bI o11)]) rfl ?_
            refine jx1 h (P := fun (v12 : Bool) => ∀ ls : Array Slot, lv_has ls 3 [] → W p l e rm_X11_told s m args below meth c H locs 0 0 Q (F0 m 87 ls [.int (bI v12)])) ?_ ?_
            · intro v12 h ls hl
              exact ret h hP hS dX11_told_87
            · intro J h
              refine rb_eq (tgt := 77) hx hb dX11_told_70 rfl (fun c70 => ?_) (fun c70 => ?_)
              · refine lv_iconst (v := 0) hx hb dX11_told_77 rfl ?_
                refine lv_goto (tgt := 87) hx hb dX11_told_78 rfl ?_
                exact J _ (lt_in c70 h) ls (lv_sub hl [] rfl)
              · refine lv_iconst (v := 1) hx hb dX11_told_73 rfl ?_
                refine lv_goto (tgt := 87) hx hb dX11_told_74 rfl ?_
                exact J _ (lt_ip c70 h) ls (lv_sub hl [] rfl)
        · have h := br_p c41 h
          refine sgO X hS (sfX X).2.2.2.2.1 wd_7_0 dX11_told_44 ?_
          refine lv_aload_n hx hb dX11_told_47 rfl (lv_at hl 0 rfl) ?_
          refine lv_iload_n hx hb dX11_told_48 rfl (lv_at hl 1 rfl) ?_
          refine lv_iconst (v := 0) hx hb dX11_told_49 rfl ?_
          obtain ⟨o13, hco13, h⟩ := bd_of h
          refine kV (rest := [.ref (g.2 9)]) X dX11_told_50 wd_7_78 mw_X11_of wd_7_80 wp_9_3 hP (k0 := 0) rfl rfl rfl hS (fun _ z => z) (c_X11_of hco13) rfl hl.1 rfl (Nat.le_of_ble_eq_true rfl) rfl rfl ⟨Nat.le_of_ble_eq_true rfl, Nat.le_of_ble_eq_true rfl⟩ (fun H locs hP _ _ hS => ?_)
          refine W.eq (g2 := F0 m 53 ls [.int o13, .ref (g.2 9)]) rfl ?_
          obtain ⟨hi53, h⟩ := gv_of h
          refine sti X hS (sfX X).2.2.2.2.2.2.2.2.2.2.2.1 hi53 dX11_told_53 ?_
          refine W.eq (g2 := F0 m 54 ls [.int (mdOf (o13).toNatClampNeg)]) rfl ?_
          exact ret h hP hS dX11_told_54
      · have h := br_n c33 h
        refine lv_iconst (v := 0) hx hb dX11_told_36 rfl ?_
        exact ret h hP hS dX11_told_37
    · intro J h
      refine rb_eq (tgt := 25) hx hb dX11_told_18 rfl (fun c18 => ?_) (fun c18 => ?_)
      · refine lv_iconst (v := 1) hx hb dX11_told_25 rfl ?_
        exact J _ (lt_in c18 h) ls (lv_sub hl [0, 1, 2] rfl)
      · refine lv_iconst (v := 0) hx hb dX11_told_21 rfl ?_
        refine lv_goto (tgt := 26) hx hb dX11_told_22 rfl ?_
        exact J _ (lt_ip c18 h) ls (lv_sub hl [0, 1, 2] rfl)
abbrev rm_X11_result : Room := { frames := 2, cells := 0, slots := 0, locals := 46 }
set_option maxRecDepth 100000 in
set_option maxHeartbeats 4000000 in
theorem c_X11_result {g : gT} {l : Launch} {A : Nat → Prop} {q : Nat → Nat} {m_thrown : Int32} {m_length : Int32} {m_at : Int32} {m_fault : Int32} {m_toldWords : Int32} {m_orders : Int32} {m_value : Int32} {m_hasUnit : Bool} {m_places : Int32} {m_clocks : Int32} {m_held : Bool} {m_x : Int64} {m_y : Int64} {m_z : Int64} {m_first : Int64} {m_second : Int64} {m_aside : Int32} {m_jobs : Int32} {m_jobsImage : Int32} {m_clocksImage : Int32} {m_heldImage : Bool} {m_hasImage : Bool} {m_tape : Nat → Int32} {m_read : Nat → Int32} {m_order : Nat → Int32} {m_width : Nat → Int32} {m_guard : Nat → Int32} {m_points : Nat → Int32} {m_stages : Nat → Int32} {m_gain : Nat → Int32} {m_undo : Nat → Int32} {m_near : Nat → Bool} {m_quarter : Nat → Int64} {m_ln : Nat → Int64} {m_angle : Nat → Int64} {m_shift : Nat → Int32} {m_digit : Nat → Int32} {m_refused : Nat → Int32} {m_job : Nat → Int32} {m_jobKept : Nat → Int32} {m_result : Nat → Int32} {m_resultKept : Nat → Int32} {m_trace : Nat → Int64} {m_traceKept : Nat → Int64} {m_jobImage : Nat → Int32} {m_resultImage : Nat → Int32} {m_traceImage : Nat → Int64} {p0 : Int32} {p1 : Int32} {o : Int32 × Int32} (h : f_X11_result p0 p1 m_thrown m_hasUnit m_jobs m_job m_result = some o) : Std g l yX11_result (.code yX11_result cX11_result 3 (some .int) :: gw) rm_X11_result A [.ref (q 0), .int p0, .int p1] (wM g q m_thrown m_length m_at m_fault m_toldWords m_orders m_value m_hasUnit m_places m_clocks m_held m_x m_y m_z m_first m_second m_aside m_jobs m_jobsImage m_clocksImage m_heldImage m_hasImage m_tape m_read m_order m_width m_guard m_points m_stages m_gain m_undo m_near m_quarter m_ln m_angle m_shift m_digit m_refused m_job m_jobKept m_result m_resultKept m_trace m_traceKept m_jobImage m_resultImage m_traceImage) (wM g q o.2 m_length m_at m_fault m_toldWords m_orders m_value m_hasUnit m_places m_clocks m_held m_x m_y m_z m_first m_second m_aside m_jobs m_jobsImage m_clocksImage m_heldImage m_hasImage m_tape m_read m_order m_width m_guard m_points m_stages m_gain m_undo m_near m_quarter m_ln m_angle m_shift m_digit m_refused m_job m_jobKept m_result m_resultKept m_trace m_traceKept m_jobImage m_resultImage m_traceImage) (some (.int o.1)) := by
  refine std_i (own := RX11) (by decide +kernel) rfl (Nat.le_of_ble_eq_true rfl) ?_
  intro p e s m args below meth c Q X ret H locs hP hS ls hl
  have hx := X.1
  have hb := X.2.1
  have hl : lv_has ls 3 [(0, .ref (q 0)), (1, .int p0), (2, .int p1)] := hl
  have ret : ∀ {H : Heap} {locs : List Loc} {pc : Nat} {ls : Array Slot} {v : Int32} {m_thrown : Int32}, some (v, m_thrown) = some o → WP g A (wM g q m_thrown m_length m_at m_fault m_toldWords m_orders m_value m_hasUnit m_places m_clocks m_held m_x m_y m_z m_first m_second m_aside m_jobs m_jobsImage m_clocksImage m_heldImage m_hasImage m_tape m_read m_order m_width m_guard m_points m_stages m_gain m_undo m_near m_quarter m_ln m_angle m_shift m_digit m_refused m_job m_jobKept m_result m_resultKept m_trace m_traceKept m_jobImage m_resultImage m_traceImage) H → va_S A s.heap H locs → decode cX11_result pc = .ok (.ireturn, 1) → W p l e rm_X11_result s m args below meth c H locs 0 0 Q (F0 m pc ls [.int v]) := by
    intro H locs pc ls v m_thrown h hP hS hd
    cases h
    exact ret hP hS hd
  have b46 : ∀ (m_thrown : Int32) (H : Heap) (locs : List Loc) (ls : Array Slot), f_X11_result_b46  m_hasUnit m_jobs m_job m_result  m_thrown = some o → WP g A (wM g q m_thrown m_length m_at m_fault m_toldWords m_orders m_value m_hasUnit m_places m_clocks m_held m_x m_y m_z m_first m_second m_aside m_jobs m_jobsImage m_clocksImage m_heldImage m_hasImage m_tape m_read m_order m_width m_guard m_points m_stages m_gain m_undo m_near m_quarter m_ln m_angle m_shift m_digit m_refused m_job m_jobKept m_result m_resultKept m_trace m_traceKept m_jobImage m_resultImage m_traceImage) H → va_S A s.heap H locs → lv_has ls 3 [] → W p l e rm_X11_result s m args below meth c H locs 0 0 Q (F0 m 46 ls []) := by
    intro  m_thrown H locs ls h hP hS hl
    unfold f_X11_result_b46 at h
    refine lv_ldcw (v := (-2147483648)) hx hb X.2.2.2.1 (X.2.2.2.2.1 _ wd_6_176) dX11_result_46 ?_
    exact ret h hP hS dX11_result_49
  unfold f_X11_result at h
  refine lv_aload_n hx hb dX11_result_0 rfl (lv_at hl 0 rfl) ?_
  refine lv_iconst (v := 0) hx hb dX11_result_1 rfl ?_
  refine pf_X11_5_M_0 (v0 := (0 : Int32)) X hP hS dX11_result_2 (fun H locs hP hS => ?_)
  refine lv_aload_n hx hb dX11_result_5 rfl (lv_at hl 0 rfl) ?_
  refine lv_iload_n hx hb dX11_result_6 rfl (lv_at hl 1 rfl) ?_
  obtain ⟨o1, hco1, h⟩ := bd_of h
  refine kV (rest := []) X dX11_result_7 wd_7_74 mw_X11_isJob wd_7_76 wp_9_2 hP (k0 := 0) rfl rfl rfl hS (fun _ z => z) (c_X11_isJob hco1) rfl hl.1 rfl (Nat.le_of_ble_eq_true rfl) rfl rfl ⟨Nat.le_of_ble_eq_true rfl, Nat.le_of_ble_eq_true rfl⟩ (fun H locs hP _ _ hS => ?_)
  refine W.eq (g2 := F0 m 10 ls [.int (bI o1)]) rfl ?_
  refine rb_eq (tgt := 46) hx hb dX11_result_10 rfl (fun c10 => ?_) (fun c10 => ?_)
  · have h := br_n c10 h
    exact b46   (0 : Int32) _ _ _ h hP hS (lv_sub hl [] rfl)
  · have h := br_p c10 h
    refine lv_iload_n hx hb dX11_result_13 rfl (lv_at hl 2 rfl) ?_
    refine lv_i2l hx hb dX11_result_14 rfl ?_
    refine lv_lconst (v := 0) hx hb dX11_result_15 rfl ?_
    refine lv_lconst (v := 1) hx hb dX11_result_16 rfl ?_
    obtain ⟨o2, hco2, h⟩ := bd_of h
    refine kS (rest := []) X dX11_result_17 wd_5_153 mw_X11_isIn wd_5_154 hP hS (fun _ z => z) (c_X11_isIn hco2) rfl hl.1 rfl (Nat.le_of_ble_eq_true rfl) rfl rfl ⟨Nat.le_of_ble_eq_true rfl, Nat.le_of_ble_eq_true rfl⟩ (fun H locs hP _ _ hS => ?_)
    refine W.eq (g2 := F0 m 20 ls [.int (bI o2)]) rfl ?_
    refine rb_eq (tgt := 46) hx hb dX11_result_20 rfl (fun c20 => ?_) (fun c20 => ?_)
    · have h := br_n c20 h
      exact b46   (0 : Int32) _ _ _ h hP hS (lv_sub hl [] rfl)
    · have h := br_p c20 h
      refine lv_aload_n hx hb dX11_result_23 rfl (lv_at hl 0 rfl) ?_
      refine lv_iload_n hx hb dX11_result_24 rfl (lv_at hl 1 rfl) ?_
      refine lv_iconst (v := 4) hx hb dX11_result_25 rfl ?_
      obtain ⟨o3, hco3, h⟩ := bd_of h
      refine kV (rest := []) X dX11_result_26 wd_7_78 mw_X11_of wd_7_80 wp_9_3 hP (k0 := 0) rfl rfl rfl hS (fun _ z => z) (c_X11_of hco3) rfl hl.1 rfl (Nat.le_of_ble_eq_true rfl) rfl rfl ⟨Nat.le_of_ble_eq_true rfl, Nat.le_of_ble_eq_true rfl⟩ (fun H locs hP _ _ hS => ?_)
      refine W.eq (g2 := F0 m 29 ls [.int o3]) rfl ?_
      refine lv_iconst (v := 2) hx hb dX11_result_29 rfl ?_
      refine lv_icmp_ne (tgt := 46) hx hb dX11_result_30 rfl (fun c30 => ?_) (fun c30 => ?_)
      · have h := br_n c30 h
        exact b46   (0 : Int32) _ _ _ h hP hS (lv_sub hl [] rfl)
      · have h := br_p c30 h
        refine lv_aload_n hx hb dX11_result_33 rfl (lv_at hl 0 rfl) ?_
        refine gf_X11_232_M_0 X hP dX11_result_34 ?_
        refine lv_iconst (v := 2) hx hb dX11_result_37 rfl ?_
        refine lv_iload_n hx hb dX11_result_38 rfl (lv_at hl 1 rfl) ?_
        refine lv_imul hx hb dX11_result_39 ?_
        refine lv_iload_n hx hb dX11_result_40 rfl (lv_at hl 2 rfl) ?_
        refine lv_iadd hx hb dX11_result_41 ?_
        obtain ⟨hi42, h⟩ := gv_of h
        refine al_M_19 X hP hi42 dX11_result_42 ?_
        refine lv_goto (tgt := 49) hx hb dX11_result_43 rfl ?_
        exact ret h hP hS dX11_result_49
abbrev rm_X11_hasBegun : Room := { frames := 2, cells := 0, slots := 0, locals := 46 }
set_option maxRecDepth 100000 in
set_option maxHeartbeats 4000000 in
theorem c_X11_hasBegun {g : gT} {l : Launch} {A : Nat → Prop} {q : Nat → Nat} {m_thrown : Int32} {m_length : Int32} {m_at : Int32} {m_fault : Int32} {m_toldWords : Int32} {m_orders : Int32} {m_value : Int32} {m_hasUnit : Bool} {m_places : Int32} {m_clocks : Int32} {m_held : Bool} {m_x : Int64} {m_y : Int64} {m_z : Int64} {m_first : Int64} {m_second : Int64} {m_aside : Int32} {m_jobs : Int32} {m_jobsImage : Int32} {m_clocksImage : Int32} {m_heldImage : Bool} {m_hasImage : Bool} {m_tape : Nat → Int32} {m_read : Nat → Int32} {m_order : Nat → Int32} {m_width : Nat → Int32} {m_guard : Nat → Int32} {m_points : Nat → Int32} {m_stages : Nat → Int32} {m_gain : Nat → Int32} {m_undo : Nat → Int32} {m_near : Nat → Bool} {m_quarter : Nat → Int64} {m_ln : Nat → Int64} {m_angle : Nat → Int64} {m_shift : Nat → Int32} {m_digit : Nat → Int32} {m_refused : Nat → Int32} {m_job : Nat → Int32} {m_jobKept : Nat → Int32} {m_result : Nat → Int32} {m_resultKept : Nat → Int32} {m_trace : Nat → Int64} {m_traceKept : Nat → Int64} {m_jobImage : Nat → Int32} {m_resultImage : Nat → Int32} {m_traceImage : Nat → Int64} {p0 : Int32} {o : Bool} (h : f_X11_hasBegun p0 m_hasUnit m_jobs m_job = some o) : Std g l yX11_hasBegun (.code yX11_hasBegun cX11_hasBegun 2 (some .boolean) :: gw) rm_X11_hasBegun A [.ref (q 0), .int p0] (wM g q m_thrown m_length m_at m_fault m_toldWords m_orders m_value m_hasUnit m_places m_clocks m_held m_x m_y m_z m_first m_second m_aside m_jobs m_jobsImage m_clocksImage m_heldImage m_hasImage m_tape m_read m_order m_width m_guard m_points m_stages m_gain m_undo m_near m_quarter m_ln m_angle m_shift m_digit m_refused m_job m_jobKept m_result m_resultKept m_trace m_traceKept m_jobImage m_resultImage m_traceImage) (wM g q m_thrown m_length m_at m_fault m_toldWords m_orders m_value m_hasUnit m_places m_clocks m_held m_x m_y m_z m_first m_second m_aside m_jobs m_jobsImage m_clocksImage m_heldImage m_hasImage m_tape m_read m_order m_width m_guard m_points m_stages m_gain m_undo m_near m_quarter m_ln m_angle m_shift m_digit m_refused m_job m_jobKept m_result m_resultKept m_trace m_traceKept m_jobImage m_resultImage m_traceImage) (some (.int (bI o))) := by
  refine std_z (own := RX11) (by decide +kernel) rfl (Nat.le_of_ble_eq_true rfl) ?_
  intro p e s m args below meth c Q X ret H locs hP hS ls hl
  have hx := X.1
  have hb := X.2.1
  have hl : lv_has ls 2 [(0, .ref (q 0)), (1, .int p0)] := hl
  have ret : ∀ {H : Heap} {locs : List Loc} {pc : Nat} {ls : Array Slot} {v : Bool} , some (v) = some o → WP g A (wM g q m_thrown m_length m_at m_fault m_toldWords m_orders m_value m_hasUnit m_places m_clocks m_held m_x m_y m_z m_first m_second m_aside m_jobs m_jobsImage m_clocksImage m_heldImage m_hasImage m_tape m_read m_order m_width m_guard m_points m_stages m_gain m_undo m_near m_quarter m_ln m_angle m_shift m_digit m_refused m_job m_jobKept m_result m_resultKept m_trace m_traceKept m_jobImage m_resultImage m_traceImage) H → va_S A s.heap H locs → decode cX11_hasBegun pc = .ok (.ireturn, 1) → W p l e rm_X11_hasBegun s m args below meth c H locs 0 0 Q (F0 m pc ls [.int (bI v)]) := by
    intro H locs pc ls v h hP hS hd
    cases h
    exact ret hP hS hd
  have b32 : ∀  (H : Heap) (locs : List Loc) (ls : Array Slot), f_X11_hasBegun_b32  m_hasUnit m_jobs m_job   = some o → WP g A (wM g q m_thrown m_length m_at m_fault m_toldWords m_orders m_value m_hasUnit m_places m_clocks m_held m_x m_y m_z m_first m_second m_aside m_jobs m_jobsImage m_clocksImage m_heldImage m_hasImage m_tape m_read m_order m_width m_guard m_points m_stages m_gain m_undo m_near m_quarter m_ln m_angle m_shift m_digit m_refused m_job m_jobKept m_result m_resultKept m_trace m_traceKept m_jobImage m_resultImage m_traceImage) H → va_S A s.heap H locs → lv_has ls 2 [] → W p l e rm_X11_hasBegun s m args below meth c H locs 0 0 Q (F0 m 32 ls []) := by
    intro   H locs ls h hP hS hl
    unfold f_X11_hasBegun_b32 at h
    refine lv_iconst (v := 0) hx hb dX11_hasBegun_32 rfl ?_
    exact ret h hP hS dX11_hasBegun_33
  have b28 : ∀  (H : Heap) (locs : List Loc) (ls : Array Slot), f_X11_hasBegun_b28  m_hasUnit m_jobs m_job   = some o → WP g A (wM g q m_thrown m_length m_at m_fault m_toldWords m_orders m_value m_hasUnit m_places m_clocks m_held m_x m_y m_z m_first m_second m_aside m_jobs m_jobsImage m_clocksImage m_heldImage m_hasImage m_tape m_read m_order m_width m_guard m_points m_stages m_gain m_undo m_near m_quarter m_ln m_angle m_shift m_digit m_refused m_job m_jobKept m_result m_resultKept m_trace m_traceKept m_jobImage m_resultImage m_traceImage) H → va_S A s.heap H locs → lv_has ls 2 [] → W p l e rm_X11_hasBegun s m args below meth c H locs 0 0 Q (F0 m 28 ls []) := by
    intro   H locs ls h hP hS hl
    unfold f_X11_hasBegun_b28 at h
    refine lv_iconst (v := 1) hx hb dX11_hasBegun_28 rfl ?_
    refine lv_goto (tgt := 33) hx hb dX11_hasBegun_29 rfl ?_
    exact ret h hP hS dX11_hasBegun_33
  unfold f_X11_hasBegun at h
  refine lv_aload_n hx hb dX11_hasBegun_0 rfl (lv_at hl 0 rfl) ?_
  refine lv_iload_n hx hb dX11_hasBegun_1 rfl (lv_at hl 1 rfl) ?_
  obtain ⟨o1, hco1, h⟩ := bd_of h
  refine kV (rest := []) X dX11_hasBegun_2 wd_7_74 mw_X11_isJob wd_7_76 wp_9_2 hP (k0 := 0) rfl rfl rfl hS (fun _ z => z) (c_X11_isJob hco1) rfl hl.1 rfl (Nat.le_of_ble_eq_true rfl) rfl rfl ⟨Nat.le_of_ble_eq_true rfl, Nat.le_of_ble_eq_true rfl⟩ (fun H locs hP _ _ hS => ?_)
  refine W.eq (g2 := F0 m 5 ls [.int (bI o1)]) rfl ?_
  refine rb_eq (tgt := 32) hx hb dX11_hasBegun_5 rfl (fun c5 => ?_) (fun c5 => ?_)
  · have h := br_n c5 h
    exact b32    _ _ _ h hP hS (lv_sub hl [] rfl)
  · have h := br_p c5 h
    refine lv_aload_n hx hb dX11_hasBegun_8 rfl (lv_at hl 0 rfl) ?_
    refine lv_iload_n hx hb dX11_hasBegun_9 rfl (lv_at hl 1 rfl) ?_
    refine lv_iconst (v := 4) hx hb dX11_hasBegun_10 rfl ?_
    obtain ⟨o2, hco2, h⟩ := bd_of h
    refine kV (rest := []) X dX11_hasBegun_11 wd_7_78 mw_X11_of wd_7_80 wp_9_3 hP (k0 := 0) rfl rfl rfl hS (fun _ z => z) (c_X11_of hco2) rfl hl.1 rfl (Nat.le_of_ble_eq_true rfl) rfl rfl ⟨Nat.le_of_ble_eq_true rfl, Nat.le_of_ble_eq_true rfl⟩ (fun H locs hP _ _ hS => ?_)
    refine W.eq (g2 := F0 m 14 ls [.int o2]) rfl ?_
    refine lv_iconst (v := 1) hx hb dX11_hasBegun_14 rfl ?_
    refine lv_icmp_eq (tgt := 28) hx hb dX11_hasBegun_15 rfl (fun c15 => ?_) (fun c15 => ?_)
    · have h := br_p c15 h
      exact b28    _ _ _ h hP hS (lv_sub hl [] rfl)
    · have h := br_n c15 h
      refine lv_aload_n hx hb dX11_hasBegun_18 rfl (lv_at hl 0 rfl) ?_
      refine lv_iload_n hx hb dX11_hasBegun_19 rfl (lv_at hl 1 rfl) ?_
      refine lv_iconst (v := 4) hx hb dX11_hasBegun_20 rfl ?_
      obtain ⟨o3, hco3, h⟩ := bd_of h
      refine kV (rest := []) X dX11_hasBegun_21 wd_7_78 mw_X11_of wd_7_80 wp_9_3 hP (k0 := 0) rfl rfl rfl hS (fun _ z => z) (c_X11_of hco3) rfl hl.1 rfl (Nat.le_of_ble_eq_true rfl) rfl rfl ⟨Nat.le_of_ble_eq_true rfl, Nat.le_of_ble_eq_true rfl⟩ (fun H locs hP _ _ hS => ?_)
      refine W.eq (g2 := F0 m 24 ls [.int o3]) rfl ?_
      refine lv_iconst (v := 2) hx hb dX11_hasBegun_24 rfl ?_
      refine jx1 h (P := fun (v4 : Bool) => ∀ ls : Array Slot, lv_has ls 2 [] → W p l e rm_X11_hasBegun s m args below meth c H locs 0 0 Q (F0 m 33 ls [.int (bI v4)])) ?_ ?_
      · intro v4 h ls hl
        exact ret h hP hS dX11_hasBegun_33
      · intro J h
        refine lv_icmp_ne (tgt := 32) hx hb dX11_hasBegun_25 rfl (fun c25 => ?_) (fun c25 => ?_)
        · refine lv_iconst (v := 0) hx hb dX11_hasBegun_32 rfl ?_
          exact J _ (lt_in c25 h) ls (lv_sub hl [] rfl)
        · refine lv_iconst (v := 1) hx hb dX11_hasBegun_28 rfl ?_
          refine lv_goto (tgt := 33) hx hb dX11_hasBegun_29 rfl ?_
          exact J _ (lt_ip c25 h) ls (lv_sub hl [] rfl)
