abbrev rm_X11_laysGain : Room := { frames := 1, cells := 0, slots := 0, locals := 22 }
set_option maxRecDepth 100000 in
set_option maxHeartbeats 4000000 in
theorem c_X11_laysGain {g : gT} {l : Launch} {A : Nat → Prop} {q : Nat → Nat} {m_thrown : Int32} {m_length : Int32} {m_at : Int32} {m_fault : Int32} {m_toldWords : Int32} {m_orders : Int32} {m_value : Int32} {m_hasUnit : Bool} {m_places : Int32} {m_clocks : Int32} {m_held : Bool} {m_x : Int64} {m_y : Int64} {m_z : Int64} {m_first : Int64} {m_second : Int64} {m_aside : Int32} {m_jobs : Int32} {m_jobsImage : Int32} {m_clocksImage : Int32} {m_heldImage : Bool} {m_hasImage : Bool} {m_tape : Nat → Int32} {m_read : Nat → Int32} {m_order : Nat → Int32} {m_width : Nat → Int32} {m_guard : Nat → Int32} {m_points : Nat → Int32} {m_stages : Nat → Int32} {m_gain : Nat → Int32} {m_undo : Nat → Int32} {m_near : Nat → Bool} {m_quarter : Nat → Int64} {m_ln : Nat → Int64} {m_angle : Nat → Int64} {m_shift : Nat → Int32} {m_digit : Nat → Int32} {m_refused : Nat → Int32} {m_job : Nat → Int32} {m_jobKept : Nat → Int32} {m_result : Nat → Int32} {m_resultKept : Nat → Int32} {m_trace : Nat → Int64} {m_traceKept : Nat → Int64} {m_jobImage : Nat → Int32} {m_resultImage : Nat → Int32} {m_traceImage : Nat → Int64} {p0 : Int32} {p1 : Int32} {o : (Nat → Int32) × (Nat → Int32) × (Nat → Int32)} (h : f_X11_laysGain p0 p1 m_points m_stages m_gain m_undo m_shift m_digit = some o) : Std g l yX11_laysGain (.code yX11_laysGain cX11_laysGain 14 none :: gw) rm_X11_laysGain A [.ref (q 0), .int p0, .int p1] (wM g q m_thrown m_length m_at m_fault m_toldWords m_orders m_value m_hasUnit m_places m_clocks m_held m_x m_y m_z m_first m_second m_aside m_jobs m_jobsImage m_clocksImage m_heldImage m_hasImage m_tape m_read m_order m_width m_guard m_points m_stages m_gain m_undo m_near m_quarter m_ln m_angle m_shift m_digit m_refused m_job m_jobKept m_result m_resultKept m_trace m_traceKept m_jobImage m_resultImage m_traceImage) (wM g q m_thrown m_length m_at m_fault m_toldWords m_orders m_value m_hasUnit m_places m_clocks m_held m_x m_y m_z m_first m_second m_aside m_jobs m_jobsImage m_clocksImage m_heldImage m_hasImage m_tape m_read m_order m_width m_guard m_points m_stages o.1 o.2.1 m_near m_quarter m_ln m_angle m_shift o.2.2 m_refused m_job m_jobKept m_result m_resultKept m_trace m_traceKept m_jobImage m_resultImage m_traceImage) none := by
  refine std_v (own := RX11) (by decide +kernel) rfl (Nat.le_of_ble_eq_true rfl) ?_
  intro p e s m args below meth c Q X ret H locs hP hS ls hl
  have hx := X.1
  have hb := X.2.1
  have hl : lv_has ls 14 [(0, .ref (q 0)), (1, .int p0), (2, .int p1)] := hl
  have ret : ∀ {H : Heap} {locs : List Loc} {pc : Nat} {ls : Array Slot} {m_gain : Nat → Int32} {m_undo : Nat → Int32} {m_digit : Nat → Int32}, some (m_gain, m_undo, m_digit) = some o → WP g A (wM g q m_thrown m_length m_at m_fault m_toldWords m_orders m_value m_hasUnit m_places m_clocks m_held m_x m_y m_z m_first m_second m_aside m_jobs m_jobsImage m_clocksImage m_heldImage m_hasImage m_tape m_read m_order m_width m_guard m_points m_stages m_gain m_undo m_near m_quarter m_ln m_angle m_shift m_digit m_refused m_job m_jobKept m_result m_resultKept m_trace m_traceKept m_jobImage m_resultImage m_traceImage) H → va_S A s.heap H locs → decode cX11_laysGain pc = .ok (.return_, 1) → W p l e rm_X11_laysGain s m args below meth c H locs 0 0 Q (F0 m pc ls []) := by
    intro H locs pc ls m_gain m_undo m_digit h hP hS hd
    cases h
    exact ret hP hS hd
  have b223 : ∀ (k185 : Int32 → Int64 → Int32 → (Nat → Int32) → (Nat → Int32) → (Nat → Int32) → Option ((Nat → Int32) × (Nat → Int32) × (Nat → Int32))) (hk185 : ∀ (x9 : Int32) (x10 : Int64) (x12 : Int32) (m_gain : Nat → Int32) (m_undo : Nat → Int32) (m_digit : Nat → Int32) (H : Heap) (locs : List Loc) (ls : Array Slot), k185 x9 x10 x12 m_gain m_undo m_digit = some o → WP g A (wM g q m_thrown m_length m_at m_fault m_toldWords m_orders m_value m_hasUnit m_places m_clocks m_held m_x m_y m_z m_first m_second m_aside m_jobs m_jobsImage m_clocksImage m_heldImage m_hasImage m_tape m_read m_order m_width m_guard m_points m_stages m_gain m_undo m_near m_quarter m_ln m_angle m_shift m_digit m_refused m_job m_jobKept m_result m_resultKept m_trace m_traceKept m_jobImage m_resultImage m_traceImage) H → va_S A s.heap H locs → lv_has ls 14 [(0, .ref (q 0)), (9, .int x9), (10, .long x10), (12, .int x12)] → W p l e rm_X11_laysGain s m args below meth c H locs 0 0 Q (F0 m 185 ls [])) , ∀ (x9 : Int32) (x10 : Int64) (x12 : Int32) (t0 : Int32) (m_gain : Nat → Int32) (m_undo : Nat → Int32) (m_digit : Nat → Int32) (H : Heap) (locs : List Loc) (ls : Array Slot), f_X11_laysGain_b223  m_points m_stages m_shift k185 x9 x10 x12 t0 m_gain m_undo m_digit = some o → WP g A (wM g q m_thrown m_length m_at m_fault m_toldWords m_orders m_value m_hasUnit m_places m_clocks m_held m_x m_y m_z m_first m_second m_aside m_jobs m_jobsImage m_clocksImage m_heldImage m_hasImage m_tape m_read m_order m_width m_guard m_points m_stages m_gain m_undo m_near m_quarter m_ln m_angle m_shift m_digit m_refused m_job m_jobKept m_result m_resultKept m_trace m_traceKept m_jobImage m_resultImage m_traceImage) H → va_S A s.heap H locs → lv_has ls 14 [(0, .ref (q 0)), (9, .int x9), (10, .long x10), (12, .int x12)] → W p l e rm_X11_laysGain s m args below meth c H locs 0 0 Q (F0 m 223 ls [.int t0]) := by
    intro k185 hk185 x9 x10 x12 t0 m_gain m_undo m_digit H locs ls h hP hS hl
    unfold f_X11_laysGain_b223 at h
    refine lv_istore (lv' := [(13, .int t0), (0, .ref (q 0)), (9, .int x9), (10, .long x10), (12, .int x12)]) hx hb dX11_laysGain_223 hl (by decide) rfl (fun ls hl => ?_)
    refine lv_aload_n hx hb dX11_laysGain_225 rfl (lv_at hl 1 rfl) ?_
    refine gf_X11_189_M_0 X hP dX11_laysGain_226 ?_
    refine lv_bipush (v := 32) hx hb dX11_laysGain_229 rfl ?_
    refine lv_iload hx hb dX11_laysGain_231 (lv_at hl 2 rfl) ?_
    refine lv_imul hx hb dX11_laysGain_233 ?_
    refine lv_iload hx hb dX11_laysGain_234 (lv_at hl 4 rfl) ?_
    refine lv_iadd hx hb dX11_laysGain_236 ?_
    refine lv_iload hx hb dX11_laysGain_237 (lv_at hl 0 rfl) ?_
    obtain ⟨hi239, h⟩ := gv_of h
    refine as_M_15 (v0 := t0) X hP hS hi239 dX11_laysGain_239 (fun H locs hP hS => ?_)
    refine lv_lload hx hb dX11_laysGain_240 (lv_at hl 3 rfl) ?_
    refine lv_iload hx hb dX11_laysGain_242 (lv_at hl 0 rfl) ?_
    refine lv_i2l hx hb dX11_laysGain_244 rfl ?_
    refine lv_lsub hx hb dX11_laysGain_245 ?_
    refine lv_ldc2 (v := 2) hx hb X.2.2.2.1 (X.2.2.2.2.1 _ wd_5_201) dX11_laysGain_246 ?_
    obtain ⟨cz249, h⟩ := gz_of h
    refine lv_ldiv hx hb dX11_laysGain_249 cz249 ?_
    refine lv_topl (fun v6 ev6 => ?_)
    have h := lt_at ev6 h
    refine lv_lstore (lv' := [(10, .long v6), (13, .int t0), (0, .ref (q 0)), (9, .int x9), (12, .int x12)]) hx hb dX11_laysGain_250 hl (by decide) rfl (fun ls hl => ?_)
    obtain ⟨v7, ev7⟩ : ∃ z : Int32, z = (x12 + 1) := ⟨_, rfl⟩
    have h := lt_at ev7 h
    refine lv_iinc (v := v7) (lv' := [(12, .int v7), (10, .long v6), (13, .int t0), (0, .ref (q 0)), (9, .int x9)]) hx hb dX11_laysGain_252 hl (k := 4) rfl (by rw [ev7]; rfl) (by decide) rfl (fun ls hl => ?_)
    refine lv_goto (tgt := 185) hx hb dX11_laysGain_255 rfl ?_
    exact hk185 x9 v6 v7 m_gain m_undo (upd m_digit ((((32 : Int32) * x9) + x12)).toNatClampNeg t0) _ _ _ h hP hS (lv_sub hl [3, 4, 1, 0] rfl)
  have l185 : ∀ (n : Nat), ∀ (x9 : Int32) (x10 : Int64) (x12 : Int32) (m_gain : Nat → Int32) (m_undo : Nat → Int32) (m_digit : Nat → Int32) (H : Heap) (locs : List Loc) (ls : Array Slot), f_X11_laysGain_l185  m_points m_stages m_shift  n x9 x10 x12 m_gain m_undo m_digit = some o → WP g A (wM g q m_thrown m_length m_at m_fault m_toldWords m_orders m_value m_hasUnit m_places m_clocks m_held m_x m_y m_z m_first m_second m_aside m_jobs m_jobsImage m_clocksImage m_heldImage m_hasImage m_tape m_read m_order m_width m_guard m_points m_stages m_gain m_undo m_near m_quarter m_ln m_angle m_shift m_digit m_refused m_job m_jobKept m_result m_resultKept m_trace m_traceKept m_jobImage m_resultImage m_traceImage) H → va_S A s.heap H locs → lv_has ls 14 [(0, .ref (q 0)), (9, .int x9), (10, .long x10), (12, .int x12)] → W p l e rm_X11_laysGain s m args below meth c H locs 0 0 Q (F0 m 185 ls []) := by
    intro  n
    induction n with
    | zero =>
      intro x9 x10 x12 m_gain m_undo m_digit H locs ls h
      exact nz_of h
    | succ n ih =>
      intro x9 x10 x12 m_gain m_undo m_digit H locs ls h hP hS hl
      rw [f_X11_laysGain_l185] at h
      refine lv_iload hx hb dX11_laysGain_185 (lv_at hl 3 rfl) ?_
      refine lv_bipush (v := 32) hx hb dX11_laysGain_187 rfl ?_
      refine lv_icmp_ge (tgt := 258) hx hb dX11_laysGain_189 rfl (fun c189 => ?_) (fun c189 => ?_)
      · have h := br_p c189 h
        exact ret h hP hS dX11_laysGain_258
      · have h := br_n c189 h
        refine lv_lload hx hb dX11_laysGain_192 (lv_at hl 2 rfl) ?_
        refine lv_ldc2 (v := 2) hx hb X.2.2.2.1 (X.2.2.2.2.1 _ wd_5_201) dX11_laysGain_194 ?_
        obtain ⟨cz197, h⟩ := gz_of h
        refine lv_lrem hx hb dX11_laysGain_197 cz197 ?_
        refine lv_lconst (v := 0) hx hb dX11_laysGain_198 rfl ?_
        refine rl_ne (tgt := 207) hx hb dX11_laysGain_199 dX11_laysGain_200 rfl (fun c199 => ?_) (fun c199 => ?_)
        · have h := br_n c199 h
          refine lv_lload hx hb dX11_laysGain_207 (lv_at hl 2 rfl) ?_
          refine lv_ldc2 (v := 4) hx hb X.2.2.2.1 (X.2.2.2.2.1 _ wd_5_205) dX11_laysGain_209 ?_
          obtain ⟨cz212, h⟩ := gz_of h
          refine lv_lrem hx hb dX11_laysGain_212 cz212 ?_
          refine lv_lconst (v := 1) hx hb dX11_laysGain_213 rfl ?_
          refine jx1 h (P := fun (v5 : Int32) => ∀ ls : Array Slot, lv_has ls 14 [(0, .ref (q 0)), (9, .int x9), (10, .long x10), (12, .int x12)] → W p l e rm_X11_laysGain s m args below meth c H locs 0 0 Q (F0 m 223 ls [.int v5])) ?_ ?_
          · intro v5 h ls hl
            exact b223 (f_X11_laysGain_l185  m_points m_stages m_shift  n) ih  x9 x10 x12 v5 m_gain m_undo m_digit _ _ _ h hP hS (lv_sub hl [0, 1, 2, 3] rfl)
          · intro J h
            refine rl_ne (tgt := 222) hx hb dX11_laysGain_214 dX11_laysGain_215 rfl (fun c214 => ?_) (fun c214 => ?_)
            · refine lv_iconst (v := (-1)) hx hb dX11_laysGain_222 rfl ?_
              exact J _ (lt_in c214 h) ls (lv_sub hl [0, 1, 2, 3] rfl)
            · refine lv_iconst (v := 1) hx hb dX11_laysGain_218 rfl ?_
              refine lv_goto (tgt := 223) hx hb dX11_laysGain_219 rfl ?_
              exact J _ (lt_ip c214 h) ls (lv_sub hl [0, 1, 2, 3] rfl)
        · have h := br_p c199 h
          refine lv_iconst (v := 0) hx hb dX11_laysGain_203 rfl ?_
          refine lv_goto (tgt := 223) hx hb dX11_laysGain_204 rfl ?_
          exact b223 (f_X11_laysGain_l185  m_points m_stages m_shift  n) ih  x9 x10 x12 (0 : Int32) m_gain m_undo m_digit _ _ _ h hP hS (lv_sub hl [0, 1, 2, 3] rfl)
  have l88 : ∀ (n : Nat), ∀ (x1 : Int32) (x2 : Int32) (x3 : Int64) (x5 : Int64) (x7 : Int64) (m_gain : Nat → Int32) (m_undo : Nat → Int32) (m_digit : Nat → Int32) (H : Heap) (locs : List Loc) (ls : Array Slot), f_X11_laysGain_l88  m_points m_stages m_shift  n x1 x2 x3 x5 x7 m_gain m_undo m_digit = some o → WP g A (wM g q m_thrown m_length m_at m_fault m_toldWords m_orders m_value m_hasUnit m_places m_clocks m_held m_x m_y m_z m_first m_second m_aside m_jobs m_jobsImage m_clocksImage m_heldImage m_hasImage m_tape m_read m_order m_width m_guard m_points m_stages m_gain m_undo m_near m_quarter m_ln m_angle m_shift m_digit m_refused m_job m_jobKept m_result m_resultKept m_trace m_traceKept m_jobImage m_resultImage m_traceImage) H → va_S A s.heap H locs → lv_has ls 14 [(0, .ref (q 0)), (1, .int x1), (2, .int x2), (3, .long x3), (5, .long x5), (7, .long x7)] → W p l e rm_X11_laysGain s m args below meth c H locs 0 0 Q (F0 m 88 ls []) := by
    intro  n
    induction n with
    | zero =>
      intro x1 x2 x3 x5 x7 m_gain m_undo m_digit H locs ls h
      exact nz_of h
    | succ n ih =>
      intro x1 x2 x3 x5 x7 m_gain m_undo m_digit H locs ls h hP hS hl
      rw [f_X11_laysGain_l88] at h
      refine lv_lload hx hb dX11_laysGain_88 (lv_at hl 5 rfl) ?_
      refine lv_lload hx hb dX11_laysGain_90 (lv_at hl 4 rfl) ?_
      refine lv_lsub hx hb dX11_laysGain_92 ?_
      refine lv_lconst (v := 1) hx hb dX11_laysGain_93 rfl ?_
      refine rl_le (tgt := 133) hx hb dX11_laysGain_94 dX11_laysGain_95 rfl (fun c94 => ?_) (fun c94 => ?_)
      · have h := br_p c94 h
        refine lv_aload_n hx hb dX11_laysGain_133 rfl (lv_at hl 0 rfl) ?_
        refine lv_iload_n hx hb dX11_laysGain_134 rfl (lv_at hl 1 rfl) ?_
        refine lv_iload_n hx hb dX11_laysGain_135 rfl (lv_at hl 2 rfl) ?_
        obtain ⟨o2, hco2, h⟩ := bd_of h
        refine kV (rest := []) X dX11_laysGain_136 wd_5_216 mw_X11_row wd_5_218 wp_7_9 hP (k0 := 0) rfl rfl rfl hS (fun _ z => z) (c_X11_row hco2) rfl hl.1 rfl (Nat.le_of_ble_eq_true rfl) rfl rfl ⟨Nat.le_of_ble_eq_true rfl, Nat.le_of_ble_eq_true rfl⟩ (fun H locs hP _ _ hS => ?_)
        refine W.eq (g2 := F0 m 139 ls [.int o2]) rfl ?_
        refine lv_istore (lv' := [(9, .int o2), (0, .ref (q 0)), (1, .int x1), (2, .int x2), (3, .long x3), (5, .long x5), (7, .long x7)]) hx hb dX11_laysGain_139 hl (by decide) rfl (fun ls hl => ?_)
        refine lv_aload_n hx hb dX11_laysGain_141 rfl (lv_at hl 1 rfl) ?_
        refine gf_X11_183_M_0 X hP dX11_laysGain_142 ?_
        refine lv_iload hx hb dX11_laysGain_145 (lv_at hl 0 rfl) ?_
        refine lv_lload hx hb dX11_laysGain_147 (lv_at hl 5 rfl) ?_
        refine lv_l2i hx hb dX11_laysGain_149 rfl ?_
        obtain ⟨hi150, h⟩ := gv_of h
        refine as_M_8 (v0 := x5.toInt32) X hP hS hi150 dX11_laysGain_150 (fun H locs hP hS => ?_)
        refine lv_aload_n hx hb dX11_laysGain_151 rfl (lv_at hl 1 rfl) ?_
        refine gf_X11_186_M_0 X hP dX11_laysGain_152 ?_
        refine lv_iload hx hb dX11_laysGain_155 (lv_at hl 0 rfl) ?_
        refine lv_lconst (v := 1) hx hb dX11_laysGain_157 rfl ?_
        refine lv_iconst (v := 2) hx hb dX11_laysGain_158 rfl ?_
        refine lv_aload_n hx hb dX11_laysGain_159 rfl (lv_at hl 1 rfl) ?_
        refine gf_X11_173_M_0 X hP dX11_laysGain_160 ?_
        refine lv_iload_n hx hb dX11_laysGain_163 rfl (lv_at hl 2 rfl) ?_
        obtain ⟨hi164, h⟩ := gv_of h
        refine al_M_6 X hP hi164 dX11_laysGain_164 ?_
        refine lv_imul hx hb dX11_laysGain_165 ?_
        refine lv_lshl hx hb dX11_laysGain_166 rfl ?_
        refine lv_lload hx hb dX11_laysGain_167 (lv_at hl 5 rfl) ?_
        obtain ⟨cz169, h⟩ := gz_of h
        refine lv_ldiv hx hb dX11_laysGain_169 cz169 ?_
        refine lv_l2i hx hb dX11_laysGain_170 rfl ?_
        refine lv_topi (fun v3 ev3 => ?_)
        have h := lt_at ev3 h
        obtain ⟨hi171, h⟩ := gv_of h
        refine as_M_9 (v0 := v3) X hP hS hi171 dX11_laysGain_171 (fun H locs hP hS => ?_)
        refine lv_aload_n hx hb dX11_laysGain_172 rfl (lv_at hl 1 rfl) ?_
        refine gf_X11_186_M_0 X hP dX11_laysGain_173 ?_
        refine lv_iload hx hb dX11_laysGain_176 (lv_at hl 0 rfl) ?_
        obtain ⟨hi178, h⟩ := gv_of h
        refine al_M_9 X hP hi178 dX11_laysGain_178 ?_
        refine lv_i2l hx hb dX11_laysGain_179 rfl ?_
        refine lv_topl (fun v4 ev4 => ?_)
        have h := lt_at ev4 h
        refine lv_lstore (lv' := [(10, .long v4), (9, .int o2), (0, .ref (q 0)), (1, .int x1), (2, .int x2), (3, .long x3), (5, .long x5), (7, .long x7)]) hx hb dX11_laysGain_180 hl (by decide) rfl (fun ls hl => ?_)
        refine lv_iconst (v := 0) hx hb dX11_laysGain_182 rfl ?_
        refine lv_istore (lv' := [(12, .int 0), (10, .long v4), (9, .int o2), (0, .ref (q 0)), (1, .int x1), (2, .int x2), (3, .long x3), (5, .long x5), (7, .long x7)]) hx hb dX11_laysGain_183 hl (by decide) rfl (fun ls hl => ?_)
        exact l185  FU o2 v4 (0 : Int32) (upd m_gain (o2).toNatClampNeg x5.toInt32) (upd m_undo (o2).toNatClampNeg v3) m_digit _ _ _ h hP hS (lv_sub hl [3, 2, 1, 0] rfl)
      · have h := br_n c94 h
        refine lv_lload hx hb dX11_laysGain_98 (lv_at hl 4 rfl) ?_
        refine lv_lload hx hb dX11_laysGain_100 (lv_at hl 5 rfl) ?_
        refine lv_ladd hx hb dX11_laysGain_102 ?_
        refine lv_ldc2 (v := 2) hx hb X.2.2.2.1 (X.2.2.2.2.1 _ wd_5_201) dX11_laysGain_103 ?_
        obtain ⟨cz106, h⟩ := gz_of h
        refine lv_ldiv hx hb dX11_laysGain_106 cz106 ?_
        refine lv_topl (fun v8 ev8 => ?_)
        have h := lt_at ev8 h
        refine lv_lstore (lv' := [(9, .long v8), (0, .ref (q 0)), (1, .int x1), (2, .int x2), (3, .long x3), (5, .long x5), (7, .long x7)]) hx hb dX11_laysGain_107 hl (by decide) rfl (fun ls hl => ?_)
        refine lv_lload hx hb dX11_laysGain_109 (lv_at hl 0 rfl) ?_
        refine lv_lload hx hb dX11_laysGain_111 (lv_at hl 0 rfl) ?_
        refine lv_lmul hx hb dX11_laysGain_113 ?_
        refine lv_lload_n hx hb dX11_laysGain_114 rfl (lv_at hl 4 rfl) ?_
        refine jx2 h (P := fun (v9 : Int64) (v10 : Int64) => ∀ ls : Array Slot, lv_has ls 14 [(0, .ref (q 0)), (1, .int x1), (2, .int x2), (3, .long x3), (5, .long v9), (7, .long v10)] → W p l e rm_X11_laysGain s m args below meth c H locs 0 0 Q (F0 m 130 ls [])) ?_ ?_
        · intro v9 v10 h ls hl
          refine lv_goto (tgt := 88) hx hb dX11_laysGain_130 rfl ?_
          exact ih x1 x2 x3 v9 v10 m_gain m_undo m_digit _ _ _ h hP hS (lv_sub hl [0, 1, 2, 3, 4, 5] rfl)
        · intro J h
          refine rl_gt (tgt := 126) hx hb dX11_laysGain_115 dX11_laysGain_116 rfl (fun c115 => ?_) (fun c115 => ?_)
          · refine lv_lload hx hb dX11_laysGain_126 (lv_at hl 0 rfl) ?_
            refine lv_lstore (lv' := [(7, .long v8), (9, .long v8), (0, .ref (q 0)), (1, .int x1), (2, .int x2), (3, .long x3), (5, .long x5)]) hx hb dX11_laysGain_128 hl (by decide) rfl (fun ls hl => ?_)
            exact J _ _ (lt2_ip c115 (lt_ip c115 h)) ls (lv_sub hl [2, 3, 4, 5, 6, 0] rfl)
          · refine lv_lload hx hb dX11_laysGain_119 (lv_at hl 0 rfl) ?_
            refine lv_lstore (lv' := [(5, .long v8), (9, .long v8), (0, .ref (q 0)), (1, .int x1), (2, .int x2), (3, .long x3), (7, .long x7)]) hx hb dX11_laysGain_121 hl (by decide) rfl (fun ls hl => ?_)
            refine lv_goto (tgt := 130) hx hb dX11_laysGain_123 rfl ?_
            exact J _ _ (lt2_in c115 (lt_in c115 h)) ls (lv_sub hl [2, 3, 4, 5, 0, 6] rfl)
  have l7 : ∀ (n : Nat), ∀ (x1 : Int32) (x2 : Int32) (x3 : Int64) (x5 : Int32) (m_gain : Nat → Int32) (m_undo : Nat → Int32) (m_digit : Nat → Int32) (H : Heap) (locs : List Loc) (ls : Array Slot), f_X11_laysGain_l7  m_points m_stages m_shift  n x1 x2 x3 x5 m_gain m_undo m_digit = some o → WP g A (wM g q m_thrown m_length m_at m_fault m_toldWords m_orders m_value m_hasUnit m_places m_clocks m_held m_x m_y m_z m_first m_second m_aside m_jobs m_jobsImage m_clocksImage m_heldImage m_hasImage m_tape m_read m_order m_width m_guard m_points m_stages m_gain m_undo m_near m_quarter m_ln m_angle m_shift m_digit m_refused m_job m_jobKept m_result m_resultKept m_trace m_traceKept m_jobImage m_resultImage m_traceImage) H → va_S A s.heap H locs → lv_has ls 14 [(0, .ref (q 0)), (1, .int x1), (2, .int x2), (3, .long x3), (5, .int x5)] → W p l e rm_X11_laysGain s m args below meth c H locs 0 0 Q (F0 m 7 ls []) := by
    intro  n
    induction n with
    | zero =>
      intro x1 x2 x3 x5 m_gain m_undo m_digit H locs ls h
      exact nz_of h
    | succ n ih =>
      intro x1 x2 x3 x5 m_gain m_undo m_digit H locs ls h hP hS hl
      rw [f_X11_laysGain_l7] at h
      refine lv_iload hx hb dX11_laysGain_7 (lv_at hl 4 rfl) ?_
      refine lv_aload_n hx hb dX11_laysGain_9 rfl (lv_at hl 0 rfl) ?_
      refine gf_X11_171_M_0 X hP dX11_laysGain_10 ?_
      refine lv_iload_n hx hb dX11_laysGain_13 rfl (lv_at hl 1 rfl) ?_
      obtain ⟨hi14, h⟩ := gv_of h
      refine al_M_7 X hP hi14 dX11_laysGain_14 ?_
      refine lv_icmp_ge (tgt := 66) hx hb dX11_laysGain_15 rfl (fun c15 => ?_) (fun c15 => ?_)
      · have h := br_p c15 h
        refine lv_lload_n hx hb dX11_laysGain_66 rfl (lv_at hl 3 rfl) ?_
        refine lv_bipush (v := 54) hx hb dX11_laysGain_67 rfl ?_
        refine lv_iconst (v := 2) hx hb dX11_laysGain_69 rfl ?_
        refine lv_aload_n hx hb dX11_laysGain_70 rfl (lv_at hl 0 rfl) ?_
        refine gf_X11_173_M_0 X hP dX11_laysGain_71 ?_
        refine lv_iload_n hx hb dX11_laysGain_74 rfl (lv_at hl 1 rfl) ?_
        obtain ⟨hi75, h⟩ := gv_of h
        refine al_M_6 X hP hi75 dX11_laysGain_75 ?_
        refine lv_imul hx hb dX11_laysGain_76 ?_
        refine lv_isub hx hb dX11_laysGain_77 ?_
        refine lv_lshr hx hb dX11_laysGain_78 rfl ?_
        refine lv_topl (fun v1 ev1 => ?_)
        have h := lt_at ev1 h
        refine lv_lstore_n (lv' := [(3, .long v1), (0, .ref (q 0)), (1, .int x1), (2, .int x2), (5, .int x5)]) hx hb dX11_laysGain_79 rfl hl (by decide) rfl (fun ls hl => ?_)
        refine lv_lconst (v := 1) hx hb dX11_laysGain_80 rfl ?_
        refine lv_lstore (lv' := [(5, .long (1 : Int64)), (3, .long v1), (0, .ref (q 0)), (1, .int x1), (2, .int x2)]) hx hb dX11_laysGain_81 hl (by decide) rfl (fun ls hl => ?_)
        refine lv_ldc2 (v := 1073741824) hx hb X.2.2.2.1 (X.2.2.2.2.1 _ wd_5_231) dX11_laysGain_83 ?_
        refine lv_lstore (lv' := [(7, .long (1073741824 : Int64)), (5, .long (1 : Int64)), (3, .long v1), (0, .ref (q 0)), (1, .int x1), (2, .int x2)]) hx hb dX11_laysGain_86 hl (by decide) rfl (fun ls hl => ?_)
        exact l88  FU x1 x2 v1 (1 : Int64) (1073741824 : Int64) m_gain m_undo m_digit _ _ _ h hP hS (lv_sub hl [3, 4, 5, 2, 1, 0] rfl)
      · have h := br_n c15 h
        refine lv_lload_n hx hb dX11_laysGain_18 rfl (lv_at hl 3 rfl) ?_
        refine lv_iconst (v := 2) hx hb dX11_laysGain_19 rfl ?_
        refine lv_aload_n hx hb dX11_laysGain_20 rfl (lv_at hl 0 rfl) ?_
        refine gf_X11_154_M_0 X hP dX11_laysGain_21 ?_
        refine lv_bipush (v := 24) hx hb dX11_laysGain_24 rfl ?_
        refine lv_iload_n hx hb dX11_laysGain_26 rfl (lv_at hl 2 rfl) ?_
        refine lv_imul hx hb dX11_laysGain_27 ?_
        refine lv_iload hx hb dX11_laysGain_28 (lv_at hl 4 rfl) ?_
        refine lv_iadd hx hb dX11_laysGain_30 ?_
        obtain ⟨hi31, h⟩ := gv_of h
        refine al_M_14 X hP hi31 dX11_laysGain_31 ?_
        refine lv_imul hx hb dX11_laysGain_32 ?_
        refine lv_lshr hx hb dX11_laysGain_33 rfl ?_
        refine lv_topl (fun v11 ev11 => ?_)
        have h := lt_at ev11 h
        refine lv_lstore (lv' := [(6, .long v11), (0, .ref (q 0)), (1, .int x1), (2, .int x2), (3, .long x3), (5, .int x5)]) hx hb dX11_laysGain_34 hl (by decide) rfl (fun ls hl => ?_)
        refine lv_lload_n hx hb dX11_laysGain_36 rfl (lv_at hl 4 rfl) ?_
        refine lv_iload_n hx hb dX11_laysGain_37 rfl (lv_at hl 3 rfl) ?_
        refine jx1 h (P := fun (v12 : Int64) => ∀ ls : Array Slot, lv_has ls 14 [(0, .ref (q 0)), (1, .int x1), (2, .int x2), (5, .int x5)] → W p l e rm_X11_laysGain s m args below meth c H locs 0 0 Q (F0 m 58 ls [.long v12, .long x3])) ?_ ?_
        · intro v12 h ls hl
          refine lv_ladd hx hb dX11_laysGain_58 ?_
          refine lv_topl (fun v13 ev13 => ?_)
          have h := lt_at ev13 h
          refine lv_lstore_n (lv' := [(3, .long v13), (0, .ref (q 0)), (1, .int x1), (2, .int x2), (5, .int x5)]) hx hb dX11_laysGain_59 rfl hl (by decide) rfl (fun ls hl => ?_)
          obtain ⟨v14, ev14⟩ : ∃ z : Int32, z = (x5 + 1) := ⟨_, rfl⟩
          have h := lt_at ev14 h
          refine lv_iinc (v := v14) (lv' := [(5, .int v14), (3, .long v13), (0, .ref (q 0)), (1, .int x1), (2, .int x2)]) hx hb dX11_laysGain_60 hl (k := 4) rfl (by rw [ev14]; rfl) (by decide) rfl (fun ls hl => ?_)
          refine lv_goto (tgt := 7) hx hb dX11_laysGain_63 rfl ?_
          exact ih x1 x2 v13 v14 m_gain m_undo m_digit _ _ _ h hP hS (lv_sub hl [2, 3, 4, 1, 0] rfl)
        · intro J h
          refine lv_if_ne (tgt := 46) hx hb dX11_laysGain_38 rfl (fun c38 => ?_) (fun c38 => ?_)
          · refine lv_iload_n hx hb dX11_laysGain_46 rfl (lv_at hl 3 rfl) ?_
            refine lv_iconst (v := 2) hx hb dX11_laysGain_47 rfl ?_
            refine lv_icmp_ne (tgt := 57) hx hb dX11_laysGain_48 rfl (fun c48 => ?_) (fun c48 => ?_)
            · refine lv_lconst (v := 0) hx hb dX11_laysGain_57 rfl ?_
              exact J _ (lt_in c48 (lt_in c38 h)) ls (lv_sub hl [1, 2, 3, 5] rfl)
            · refine lv_lload hx hb dX11_laysGain_51 (lv_at hl 0 rfl) ?_
              refine lv_lneg hx hb dX11_laysGain_53 ?_
              refine lv_goto (tgt := 58) hx hb dX11_laysGain_54 rfl ?_
              exact J _ (lt_ip c48 (lt_in c38 h)) ls (lv_sub hl [1, 2, 3, 5] rfl)
          · refine lv_lload hx hb dX11_laysGain_41 (lv_at hl 0 rfl) ?_
            refine lv_goto (tgt := 58) hx hb dX11_laysGain_43 rfl ?_
            exact J _ (lt_ip c38 h) ls (lv_sub hl [1, 2, 3, 5] rfl)
  unfold f_X11_laysGain at h
  refine lv_ldc2 (v := 18014398509481984) hx hb X.2.2.2.1 (X.2.2.2.2.1 _ wd_5_230) dX11_laysGain_0 ?_
  refine lv_lstore_n (lv' := [(3, .long (18014398509481984 : Int64)), (0, .ref (q 0)), (1, .int p0), (2, .int p1)]) hx hb dX11_laysGain_3 rfl hl (by decide) rfl (fun ls hl => ?_)
  refine lv_iconst (v := 0) hx hb dX11_laysGain_4 rfl ?_
  refine lv_istore (lv' := [(5, .int 0), (3, .long (18014398509481984 : Int64)), (0, .ref (q 0)), (1, .int p0), (2, .int p1)]) hx hb dX11_laysGain_5 hl (by decide) rfl (fun ls hl => ?_)
  exact l7  FU p0 p1 (18014398509481984 : Int64) (0 : Int32) m_gain m_undo m_digit _ _ _ h hP hS (lv_sub hl [2, 3, 4, 1, 0] rfl)
abbrev rm_X11_lays : Room := { frames := 3, cells := 0, slots := 0, locals := 70 }
set_option maxRecDepth 100000 in
set_option maxHeartbeats 4000000 in
theorem c_X11_lays {g : gT} {l : Launch} {A : Nat → Prop} {q : Nat → Nat} {m_thrown : Int32} {m_length : Int32} {m_at : Int32} {m_fault : Int32} {m_toldWords : Int32} {m_orders : Int32} {m_value : Int32} {m_hasUnit : Bool} {m_places : Int32} {m_clocks : Int32} {m_held : Bool} {m_x : Int64} {m_y : Int64} {m_z : Int64} {m_first : Int64} {m_second : Int64} {m_aside : Int32} {m_jobs : Int32} {m_jobsImage : Int32} {m_clocksImage : Int32} {m_heldImage : Bool} {m_hasImage : Bool} {m_tape : Nat → Int32} {m_read : Nat → Int32} {m_order : Nat → Int32} {m_width : Nat → Int32} {m_guard : Nat → Int32} {m_points : Nat → Int32} {m_stages : Nat → Int32} {m_gain : Nat → Int32} {m_undo : Nat → Int32} {m_near : Nat → Bool} {m_quarter : Nat → Int64} {m_ln : Nat → Int64} {m_angle : Nat → Int64} {m_shift : Nat → Int32} {m_digit : Nat → Int32} {m_refused : Nat → Int32} {m_job : Nat → Int32} {m_jobKept : Nat → Int32} {m_result : Nat → Int32} {m_resultKept : Nat → Int32} {m_trace : Nat → Int64} {m_traceKept : Nat → Int64} {m_jobImage : Nat → Int32} {m_resultImage : Nat → Int32} {m_traceImage : Nat → Int64} {p0 : Int32} {p1 : Int32} {p2 : Int32} {p3 : Int32} {p4 : Bool} {o : (Nat → Int32) × (Nat → Int32) × (Nat → Int32) × (Nat → Int32) × (Nat → Int32) × (Nat → Int32) × (Nat → Bool) × (Nat → Int64) × (Nat → Int64) × (Nat → Int64) × (Nat → Int32)} (h : f_X11_lays p0 p1 p2 p3 p4 m_width m_guard m_points m_stages m_gain m_undo m_near m_quarter m_ln m_angle m_shift m_digit = some o) : Std g l yX11_lays (.code yX11_lays cX11_lays 8 none :: gw) rm_X11_lays A [.ref (q 0), .int p0, .int p1, .int p2, .int p3, .int (bI p4)] (wM g q m_thrown m_length m_at m_fault m_toldWords m_orders m_value m_hasUnit m_places m_clocks m_held m_x m_y m_z m_first m_second m_aside m_jobs m_jobsImage m_clocksImage m_heldImage m_hasImage m_tape m_read m_order m_width m_guard m_points m_stages m_gain m_undo m_near m_quarter m_ln m_angle m_shift m_digit m_refused m_job m_jobKept m_result m_resultKept m_trace m_traceKept m_jobImage m_resultImage m_traceImage) (wM g q m_thrown m_length m_at m_fault m_toldWords m_orders m_value m_hasUnit m_places m_clocks m_held m_x m_y m_z m_first m_second m_aside m_jobs m_jobsImage m_clocksImage m_heldImage m_hasImage m_tape m_read m_order o.1 o.2.1 o.2.2.1 o.2.2.2.1 o.2.2.2.2.1 o.2.2.2.2.2.1 o.2.2.2.2.2.2.1 o.2.2.2.2.2.2.2.1 o.2.2.2.2.2.2.2.2.1 o.2.2.2.2.2.2.2.2.2.1 m_shift o.2.2.2.2.2.2.2.2.2.2 m_refused m_job m_jobKept m_result m_resultKept m_trace m_traceKept m_jobImage m_resultImage m_traceImage) none := by
  refine std_v (own := RX11) (by decide +kernel) rfl (Nat.le_of_ble_eq_true rfl) ?_
  intro p e s m args below meth c Q X ret H locs hP hS ls hl
  have hx := X.1
  have hb := X.2.1
  have hl : lv_has ls 8 [(0, .ref (q 0)), (1, .int p0), (2, .int p1), (3, .int p2), (4, .int p3), (5, .int (bI p4))] := hl
  have ret : ∀ {H : Heap} {locs : List Loc} {pc : Nat} {ls : Array Slot} {m_width : Nat → Int32} {m_guard : Nat → Int32} {m_points : Nat → Int32} {m_stages : Nat → Int32} {m_gain : Nat → Int32} {m_undo : Nat → Int32} {m_near : Nat → Bool} {m_quarter : Nat → Int64} {m_ln : Nat → Int64} {m_angle : Nat → Int64} {m_digit : Nat → Int32}, some (m_width, m_guard, m_points, m_stages, m_gain, m_undo, m_near, m_quarter, m_ln, m_angle, m_digit) = some o → WP g A (wM g q m_thrown m_length m_at m_fault m_toldWords m_orders m_value m_hasUnit m_places m_clocks m_held m_x m_y m_z m_first m_second m_aside m_jobs m_jobsImage m_clocksImage m_heldImage m_hasImage m_tape m_read m_order m_width m_guard m_points m_stages m_gain m_undo m_near m_quarter m_ln m_angle m_shift m_digit m_refused m_job m_jobKept m_result m_resultKept m_trace m_traceKept m_jobImage m_resultImage m_traceImage) H → va_S A s.heap H locs → decode cX11_lays pc = .ok (.return_, 1) → W p l e rm_X11_lays s m args below meth c H locs 0 0 Q (F0 m pc ls []) := by
    intro H locs pc ls m_width m_guard m_points m_stages m_gain m_undo m_near m_quarter m_ln m_angle m_digit h hP hS hd
    cases h
    exact ret hP hS hd
  have l99 : ∀ (k90 : Int32 → Int32 → (Nat → Int32) → (Nat → Int32) → (Nat → Int32) → (Nat → Int32) → (Nat → Int32) → (Nat → Int32) → (Nat → Bool) → (Nat → Int64) → (Nat → Int64) → (Nat → Int64) → (Nat → Int32) → Option ((Nat → Int32) × (Nat → Int32) × (Nat → Int32) × (Nat → Int32) × (Nat → Int32) × (Nat → Int32) × (Nat → Bool) × (Nat → Int64) × (Nat → Int64) × (Nat → Int64) × (Nat → Int32))) (hk90 : ∀ (x1 : Int32) (x6 : Int32) (m_width : Nat → Int32) (m_guard : Nat → Int32) (m_points : Nat → Int32) (m_stages : Nat → Int32) (m_gain : Nat → Int32) (m_undo : Nat → Int32) (m_near : Nat → Bool) (m_quarter : Nat → Int64) (m_ln : Nat → Int64) (m_angle : Nat → Int64) (m_digit : Nat → Int32) (H : Heap) (locs : List Loc) (ls : Array Slot), k90 x1 x6 m_width m_guard m_points m_stages m_gain m_undo m_near m_quarter m_ln m_angle m_digit = some o → WP g A (wM g q m_thrown m_length m_at m_fault m_toldWords m_orders m_value m_hasUnit m_places m_clocks m_held m_x m_y m_z m_first m_second m_aside m_jobs m_jobsImage m_clocksImage m_heldImage m_hasImage m_tape m_read m_order m_width m_guard m_points m_stages m_gain m_undo m_near m_quarter m_ln m_angle m_shift m_digit m_refused m_job m_jobKept m_result m_resultKept m_trace m_traceKept m_jobImage m_resultImage m_traceImage) H → va_S A s.heap H locs → lv_has ls 8 [(0, .ref (q 0)), (1, .int x1), (6, .int x6)] → W p l e rm_X11_lays s m args below meth c H locs 0 0 Q (F0 m 90 ls [])) (n : Nat), ∀ (x1 : Int32) (x6 : Int32) (x7 : Int32) (m_width : Nat → Int32) (m_guard : Nat → Int32) (m_points : Nat → Int32) (m_stages : Nat → Int32) (m_gain : Nat → Int32) (m_undo : Nat → Int32) (m_near : Nat → Bool) (m_quarter : Nat → Int64) (m_ln : Nat → Int64) (m_angle : Nat → Int64) (m_digit : Nat → Int32) (H : Heap) (locs : List Loc) (ls : Array Slot), f_X11_lays_l99  m_shift k90 n x1 x6 x7 m_width m_guard m_points m_stages m_gain m_undo m_near m_quarter m_ln m_angle m_digit = some o → WP g A (wM g q m_thrown m_length m_at m_fault m_toldWords m_orders m_value m_hasUnit m_places m_clocks m_held m_x m_y m_z m_first m_second m_aside m_jobs m_jobsImage m_clocksImage m_heldImage m_hasImage m_tape m_read m_order m_width m_guard m_points m_stages m_gain m_undo m_near m_quarter m_ln m_angle m_shift m_digit m_refused m_job m_jobKept m_result m_resultKept m_trace m_traceKept m_jobImage m_resultImage m_traceImage) H → va_S A s.heap H locs → lv_has ls 8 [(0, .ref (q 0)), (1, .int x1), (6, .int x6), (7, .int x7)] → W p l e rm_X11_lays s m args below meth c H locs 0 0 Q (F0 m 99 ls []) := by
    intro k90 hk90 n
    induction n with
    | zero =>
      intro x1 x6 x7 m_width m_guard m_points m_stages m_gain m_undo m_near m_quarter m_ln m_angle m_digit H locs ls h
      exact nz_of h
    | succ n ih =>
      intro x1 x6 x7 m_width m_guard m_points m_stages m_gain m_undo m_near m_quarter m_ln m_angle m_digit H locs ls h hP hS hl
      rw [f_X11_lays_l99] at h
      refine lv_iload hx hb dX11_lays_99 (lv_at hl 3 rfl) ?_
      refine lv_bipush (v := 24) hx hb dX11_lays_101 rfl ?_
      refine lv_icmp_ge (tgt := 154) hx hb dX11_lays_103 rfl (fun c103 => ?_) (fun c103 => ?_)
      · have h := br_p c103 h
        refine lv_aload_n hx hb dX11_lays_154 rfl (lv_at hl 0 rfl) ?_
        refine lv_iload_n hx hb dX11_lays_155 rfl (lv_at hl 1 rfl) ?_
        refine lv_iload hx hb dX11_lays_156 (lv_at hl 2 rfl) ?_
        obtain ⟨o7, hco7, h⟩ := bd_of h
        refine kV (rest := []) X dX11_lays_158 wd_5_226 mw_X11_laysGain wd_5_228 wp_7_10 hP (k0 := 0) rfl rfl rfl hS (fun _ z => z) (c_X11_laysGain hco7) rfl hl.1 rfl (Nat.le_of_ble_eq_true rfl) rfl rfl ⟨Nat.le_of_ble_eq_true rfl, Nat.le_of_ble_eq_true rfl⟩ (fun H locs hP _ _ hS => ?_)
        refine W.eq (g2 := F0 m 161 ls []) rfl ?_
        obtain ⟨v8, ev8⟩ : ∃ z : Int32, z = (x6 + 1) := ⟨_, rfl⟩
        have h := lt_at ev8 h
        refine lv_iinc (v := v8) (lv' := [(6, .int v8), (0, .ref (q 0)), (1, .int x1), (7, .int x7)]) hx hb dX11_lays_161 hl (k := 2) rfl (by rw [ev8]; rfl) (by decide) rfl (fun ls hl => ?_)
        refine lv_goto (tgt := 90) hx hb dX11_lays_164 rfl ?_
        exact hk90 x1 v8 m_width m_guard m_points m_stages o7.1 o7.2.1 m_near m_quarter m_ln m_angle o7.2.2 _ _ _ h hP hS (lv_sub hl [1, 2, 0] rfl)
      · have h := br_n c103 h
        refine lv_aload_n hx hb dX11_lays_106 rfl (lv_at hl 0 rfl) ?_
        refine gf_X11_208_M_0 X hP dX11_lays_107 ?_
        refine lv_bipush (v := 24) hx hb dX11_lays_110 rfl ?_
        refine lv_aload_n hx hb dX11_lays_112 rfl (lv_at hl 0 rfl) ?_
        refine lv_iload_n hx hb dX11_lays_113 rfl (lv_at hl 1 rfl) ?_
        refine lv_iload hx hb dX11_lays_114 (lv_at hl 2 rfl) ?_
        obtain ⟨o9, hco9, h⟩ := bd_of h
        refine kV (rest := [.int 24, .ref (q 13)]) X dX11_lays_116 wd_5_216 mw_X11_row wd_5_218 wp_7_9 hP (k0 := 0) rfl rfl rfl hS (fun _ z => z) (c_X11_row hco9) rfl hl.1 rfl (Nat.le_of_ble_eq_true rfl) rfl rfl ⟨Nat.le_of_ble_eq_true rfl, Nat.le_of_ble_eq_true rfl⟩ (fun H locs hP _ _ hS => ?_)
        refine W.eq (g2 := F0 m 119 ls [.int o9, .int 24, .ref (q 13)]) rfl ?_
        refine lv_imul hx hb dX11_lays_119 ?_
        refine lv_iload hx hb dX11_lays_120 (lv_at hl 3 rfl) ?_
        refine lv_iadd hx hb dX11_lays_122 ?_
        refine lv_iload hx hb dX11_lays_123 (lv_at hl 2 rfl) ?_
        refine lv_aload_n hx hb dX11_lays_125 rfl (lv_at hl 0 rfl) ?_
        refine gf_X11_154_M_0 X hP dX11_lays_126 ?_
        refine lv_bipush (v := 24) hx hb dX11_lays_129 rfl ?_
        refine lv_iload hx hb dX11_lays_131 (lv_at hl 2 rfl) ?_
        refine lv_imul hx hb dX11_lays_133 ?_
        refine lv_iload hx hb dX11_lays_134 (lv_at hl 3 rfl) ?_
        refine lv_iadd hx hb dX11_lays_136 ?_
        obtain ⟨hi137, h⟩ := gv_of h
        refine al_M_14 X hP hi137 dX11_lays_137 ?_
        refine lv_aload_n hx hb dX11_lays_138 rfl (lv_at hl 0 rfl) ?_
        refine gf_X11_173_M_0 X hP dX11_lays_139 ?_
        refine lv_iload_n hx hb dX11_lays_142 rfl (lv_at hl 1 rfl) ?_
        obtain ⟨hi143, h⟩ := gv_of h
        refine al_M_6 X hP hi143 dX11_lays_143 ?_
        obtain ⟨o10, hco10, h⟩ := bd_of h
        refine kS (rest := [.int (((24 : Int32) * o9) + x7), .ref (q 13)]) X dX11_lays_144 wd_5_220 mw_X11_angleOf wd_5_221 hP hS (fun _ z => z) (c_X11_angleOf hco10) rfl hl.1 rfl (Nat.le_of_ble_eq_true rfl) rfl rfl ⟨Nat.le_of_ble_eq_true rfl, Nat.le_of_ble_eq_true rfl⟩ (fun H locs hP _ _ hS => ?_)
        refine W.eq (g2 := F0 m 147 ls [.long o10, .int (((24 : Int32) * o9) + x7), .ref (q 13)]) rfl ?_
        obtain ⟨hi147, h⟩ := gv_of h
        refine as_M_13 (v0 := o10) X hP hS hi147 dX11_lays_147 (fun H locs hP hS => ?_)
        obtain ⟨v11, ev11⟩ : ∃ z : Int32, z = (x7 + 1) := ⟨_, rfl⟩
        have h := lt_at ev11 h
        refine lv_iinc (v := v11) (lv' := [(7, .int v11), (0, .ref (q 0)), (1, .int x1), (6, .int x6)]) hx hb dX11_lays_148 hl (k := 3) rfl (by rw [ev11]; rfl) (by decide) rfl (fun ls hl => ?_)
        refine lv_goto (tgt := 99) hx hb dX11_lays_151 rfl ?_
        exact ih x1 x6 v11 m_width m_guard m_points m_stages m_gain m_undo m_near m_quarter m_ln (vp_updL m_angle ((((24 : Int32) * o9) + x7)).toNatClampNeg o10) m_digit _ _ _ h hP hS (lv_sub hl [1, 2, 3, 0] rfl)
  have l90 : ∀ (n : Nat), ∀ (x1 : Int32) (x6 : Int32) (m_width : Nat → Int32) (m_guard : Nat → Int32) (m_points : Nat → Int32) (m_stages : Nat → Int32) (m_gain : Nat → Int32) (m_undo : Nat → Int32) (m_near : Nat → Bool) (m_quarter : Nat → Int64) (m_ln : Nat → Int64) (m_angle : Nat → Int64) (m_digit : Nat → Int32) (H : Heap) (locs : List Loc) (ls : Array Slot), f_X11_lays_l90  m_shift  n x1 x6 m_width m_guard m_points m_stages m_gain m_undo m_near m_quarter m_ln m_angle m_digit = some o → WP g A (wM g q m_thrown m_length m_at m_fault m_toldWords m_orders m_value m_hasUnit m_places m_clocks m_held m_x m_y m_z m_first m_second m_aside m_jobs m_jobsImage m_clocksImage m_heldImage m_hasImage m_tape m_read m_order m_width m_guard m_points m_stages m_gain m_undo m_near m_quarter m_ln m_angle m_shift m_digit m_refused m_job m_jobKept m_result m_resultKept m_trace m_traceKept m_jobImage m_resultImage m_traceImage) H → va_S A s.heap H locs → lv_has ls 8 [(0, .ref (q 0)), (1, .int x1), (6, .int x6)] → W p l e rm_X11_lays s m args below meth c H locs 0 0 Q (F0 m 90 ls []) := by
    intro  n
    induction n with
    | zero =>
      intro x1 x6 m_width m_guard m_points m_stages m_gain m_undo m_near m_quarter m_ln m_angle m_digit H locs ls h
      exact nz_of h
    | succ n ih =>
      intro x1 x6 m_width m_guard m_points m_stages m_gain m_undo m_near m_quarter m_ln m_angle m_digit H locs ls h hP hS hl
      rw [f_X11_lays_l90] at h
      refine lv_iload hx hb dX11_lays_90 (lv_at hl 2 rfl) ?_
      refine lv_iconst (v := 3) hx hb dX11_lays_92 rfl ?_
      refine lv_icmp_ge (tgt := 167) hx hb dX11_lays_93 rfl (fun c93 => ?_) (fun c93 => ?_)
      · have h := br_p c93 h
        exact ret h hP hS dX11_lays_167
      · have h := br_n c93 h
        refine lv_iconst (v := 0) hx hb dX11_lays_96 rfl ?_
        refine lv_istore (lv' := [(7, .int 0), (0, .ref (q 0)), (1, .int x1), (6, .int x6)]) hx hb dX11_lays_97 hl (by decide) rfl (fun ls hl => ?_)
        exact l99 (f_X11_lays_l90  m_shift  n) ih FU x1 x6 (0 : Int32) m_width m_guard m_points m_stages m_gain m_undo m_near m_quarter m_ln m_angle m_digit _ _ _ h hP hS (lv_sub hl [1, 2, 3, 0] rfl)
  unfold f_X11_lays at h
  refine lv_aload_n hx hb dX11_lays_0 rfl (lv_at hl 0 rfl) ?_
  refine gf_X11_192_M_0 X hP dX11_lays_1 ?_
  refine lv_iload_n hx hb dX11_lays_4 rfl (lv_at hl 1 rfl) ?_
  refine lv_iload_n hx hb dX11_lays_5 rfl (lv_at hl 2 rfl) ?_
  obtain ⟨hi6, h⟩ := gv_of h
  refine as_M_4 (v0 := p1) X hP hS hi6 dX11_lays_6 (fun H locs hP hS => ?_)
  refine lv_aload_n hx hb dX11_lays_7 rfl (lv_at hl 0 rfl) ?_
  refine gf_X11_194_M_0 X hP dX11_lays_8 ?_
  refine lv_iload_n hx hb dX11_lays_11 rfl (lv_at hl 1 rfl) ?_
  refine lv_iload_n hx hb dX11_lays_12 rfl (lv_at hl 3 rfl) ?_
  obtain ⟨hi13, h⟩ := gv_of h
  refine as_M_5 (v0 := p2) X hP hS hi13 dX11_lays_13 (fun H locs hP hS => ?_)
  refine lv_aload_n hx hb dX11_lays_14 rfl (lv_at hl 0 rfl) ?_
  refine gf_X11_173_M_0 X hP dX11_lays_15 ?_
  refine lv_iload_n hx hb dX11_lays_18 rfl (lv_at hl 1 rfl) ?_
  refine lv_iload_n hx hb dX11_lays_19 rfl (lv_at hl 2 rfl) ?_
  refine lv_iload_n hx hb dX11_lays_20 rfl (lv_at hl 3 rfl) ?_
  refine lv_iadd hx hb dX11_lays_21 ?_
  refine lv_topi (fun v1 ev1 => ?_)
  have h := lt_at ev1 h
  obtain ⟨hi22, h⟩ := gv_of h
  refine as_M_6 (v0 := v1) X hP hS hi22 dX11_lays_22 (fun H locs hP hS => ?_)
  refine lv_aload_n hx hb dX11_lays_23 rfl (lv_at hl 0 rfl) ?_
  refine gf_X11_171_M_0 X hP dX11_lays_24 ?_
  refine lv_iload_n hx hb dX11_lays_27 rfl (lv_at hl 1 rfl) ?_
  refine lv_iload hx hb dX11_lays_28 (lv_at hl 4 rfl) ?_
  obtain ⟨hi30, h⟩ := gv_of h
  refine as_M_7 (v0 := p3) X hP hS hi30 dX11_lays_30 (fun H locs hP hS => ?_)
  refine lv_aload_n hx hb dX11_lays_31 rfl (lv_at hl 0 rfl) ?_
  refine gf_X11_196_M_0 X hP dX11_lays_32 ?_
  refine lv_iload_n hx hb dX11_lays_35 rfl (lv_at hl 1 rfl) ?_
  refine lv_iload hx hb dX11_lays_36 (lv_at hl 5 rfl) ?_
  obtain ⟨hi38, h⟩ := gv_of h
  refine as_M_10 (v0 := p4) X hP hS hi38 dX11_lays_38 (fun H locs hP hS => ?_)
  refine lv_aload_n hx hb dX11_lays_39 rfl (lv_at hl 0 rfl) ?_
  refine gf_X11_199_M_0 X hP dX11_lays_40 ?_
  refine lv_iload_n hx hb dX11_lays_43 rfl (lv_at hl 1 rfl) ?_
  refine lv_ldc2 (v := 2) hx hb X.2.2.2.1 (X.2.2.2.2.1 _ wd_5_201) dX11_lays_44 ?_
  obtain ⟨o2, hco2, h⟩ := bd_of h
  refine kS (rest := [.long (2 : Int64), .int p0, .ref (q 11)]) X dX11_lays_47 wd_5_202 mw_X11_eighth wd_5_203 hP hS (fun _ z => z) (c_X11_eighth hco2) rfl hl.1 rfl (Nat.le_of_ble_eq_true rfl) rfl rfl ⟨Nat.le_of_ble_eq_true rfl, Nat.le_of_ble_eq_true rfl⟩ (fun H locs hP _ _ hS => ?_)
  refine W.eq (g2 := F0 m 50 ls [.long o2, .long (2 : Int64), .int p0, .ref (q 11)]) rfl ?_
  refine lv_aload_n hx hb dX11_lays_50 rfl (lv_at hl 0 rfl) ?_
  refine gf_X11_173_M_0 X hP dX11_lays_51 ?_
  refine lv_iload_n hx hb dX11_lays_54 rfl (lv_at hl 1 rfl) ?_
  obtain ⟨hi55, h⟩ := gv_of h
  refine al_M_6 X hP hi55 dX11_lays_55 ?_
  obtain ⟨o3, hco3, h⟩ := bd_of h
  refine kS (rest := [.long (2 : Int64), .int p0, .ref (q 11)]) X dX11_lays_56 wd_5_212 mw_X11_by wd_5_213 hP hS (fun _ z => z) (c_X11_by hco3) rfl hl.1 rfl (Nat.le_of_ble_eq_true rfl) rfl rfl ⟨Nat.le_of_ble_eq_true rfl, Nat.le_of_ble_eq_true rfl⟩ (fun H locs hP _ _ hS => ?_)
  refine W.eq (g2 := F0 m 59 ls [.long o3, .long (2 : Int64), .int p0, .ref (q 11)]) rfl ?_
  refine lv_lmul hx hb dX11_lays_59 ?_
  refine lv_topl (fun v4 ev4 => ?_)
  have h := lt_at ev4 h
  obtain ⟨hi60, h⟩ := gv_of h
  refine as_M_11 (v0 := v4) X hP hS hi60 dX11_lays_60 (fun H locs hP hS => ?_)
  refine lv_aload_n hx hb dX11_lays_61 rfl (lv_at hl 0 rfl) ?_
  refine gf_X11_203_M_0 X hP dX11_lays_62 ?_
  refine lv_iload_n hx hb dX11_lays_65 rfl (lv_at hl 1 rfl) ?_
  refine lv_ldc2 (v := 2) hx hb X.2.2.2.1 (X.2.2.2.2.1 _ wd_5_201) dX11_lays_66 ?_
  refine lv_ldc2 (v := 3) hx hb X.2.2.2.1 (X.2.2.2.2.1 _ wd_5_215) dX11_lays_69 ?_
  refine lv_iconst (v := 1) hx hb dX11_lays_72 rfl ?_
  obtain ⟨o5, hco5, h⟩ := bd_of h
  refine kS (rest := [.long (2 : Int64), .int p0, .ref (q 12)]) X dX11_lays_73 wd_5_207 mw_X11_fifth wd_5_208 hP hS (fun _ z => z) (c_X11_fifth hco5) rfl hl.1 rfl (Nat.le_of_ble_eq_true rfl) rfl rfl ⟨Nat.le_of_ble_eq_true rfl, Nat.le_of_ble_eq_true rfl⟩ (fun H locs hP _ _ hS => ?_)
  refine W.eq (g2 := F0 m 76 ls [.long o5, .long (2 : Int64), .int p0, .ref (q 12)]) rfl ?_
  refine lv_lmul hx hb dX11_lays_76 ?_
  refine lv_aload_n hx hb dX11_lays_77 rfl (lv_at hl 0 rfl) ?_
  refine gf_X11_173_M_0 X hP dX11_lays_78 ?_
  refine lv_iload_n hx hb dX11_lays_81 rfl (lv_at hl 1 rfl) ?_
  obtain ⟨hi82, h⟩ := gv_of h
  refine al_M_6 X hP hi82 dX11_lays_82 ?_
  obtain ⟨o6, hco6, h⟩ := bd_of h
  refine kS (rest := [.int p0, .ref (q 12)]) X dX11_lays_83 wd_5_212 mw_X11_by wd_5_213 hP hS (fun _ z => z) (c_X11_by hco6) rfl hl.1 rfl (Nat.le_of_ble_eq_true rfl) rfl rfl ⟨Nat.le_of_ble_eq_true rfl, Nat.le_of_ble_eq_true rfl⟩ (fun H locs hP _ _ hS => ?_)
  refine W.eq (g2 := F0 m 86 ls [.long o6, .int p0, .ref (q 12)]) rfl ?_
  obtain ⟨hi86, h⟩ := gv_of h
  refine as_M_12 (v0 := o6) X hP hS hi86 dX11_lays_86 (fun H locs hP hS => ?_)
  refine lv_iconst (v := 0) hx hb dX11_lays_87 rfl ?_
  refine lv_istore (lv' := [(6, .int 0), (0, .ref (q 0)), (1, .int p0), (2, .int p1), (3, .int p2), (4, .int p3), (5, .int (bI p4))]) hx hb dX11_lays_88 hl (by decide) rfl (fun ls hl => ?_)
  exact l90  FU p0 (0 : Int32) (upd m_width (p0).toNatClampNeg p1) (upd m_guard (p0).toNatClampNeg p2) (upd m_points (p0).toNatClampNeg v1) (upd m_stages (p0).toNatClampNeg p3) m_gain m_undo (updB m_near (p0).toNatClampNeg p4) (vp_updL m_quarter (p0).toNatClampNeg v4) (vp_updL m_ln (p0).toNatClampNeg o6) m_angle m_digit _ _ _ h hP hS (lv_sub hl [1, 2, 0] rfl)
abbrev rm_X11_unit : Room := { frames := 8, cells := 0, slots := 0, locals := 179 }
set_option maxRecDepth 100000 in
set_option maxHeartbeats 4000000 in
theorem c_X11_unit {g : gT} {l : Launch} {A : Nat → Prop} {q : Nat → Nat} {m_thrown : Int32} {m_length : Int32} {m_at : Int32} {m_fault : Int32} {m_toldWords : Int32} {m_orders : Int32} {m_value : Int32} {m_hasUnit : Bool} {m_places : Int32} {m_clocks : Int32} {m_held : Bool} {m_x : Int64} {m_y : Int64} {m_z : Int64} {m_first : Int64} {m_second : Int64} {m_aside : Int32} {m_jobs : Int32} {m_jobsImage : Int32} {m_clocksImage : Int32} {m_heldImage : Bool} {m_hasImage : Bool} {m_tape : Nat → Int32} {m_read : Nat → Int32} {m_order : Nat → Int32} {m_width : Nat → Int32} {m_guard : Nat → Int32} {m_points : Nat → Int32} {m_stages : Nat → Int32} {m_gain : Nat → Int32} {m_undo : Nat → Int32} {m_near : Nat → Bool} {m_quarter : Nat → Int64} {m_ln : Nat → Int64} {m_angle : Nat → Int64} {m_shift : Nat → Int32} {m_digit : Nat → Int32} {m_refused : Nat → Int32} {m_job : Nat → Int32} {m_jobKept : Nat → Int32} {m_result : Nat → Int32} {m_resultKept : Nat → Int32} {m_trace : Nat → Int64} {m_traceKept : Nat → Int64} {m_jobImage : Nat → Int32} {m_resultImage : Nat → Int32} {m_traceImage : Nat → Int64}  {o : Int32 × Int32 × Int32 × Int32 × Int32 × Int32 × Bool × Int32 × Int32 × Bool × Int32 × Bool × (Nat → Int32) × (Nat → Int32) × (Nat → Int32) × (Nat → Int32) × (Nat → Int32) × (Nat → Int32) × (Nat → Int32) × (Nat → Bool) × (Nat → Int64) × (Nat → Int64) × (Nat → Int64) × (Nat → Int32)} (h : f_X11_unit  m_thrown m_length m_at m_fault m_toldWords m_hasUnit m_places m_clocks m_held m_jobs m_hasImage m_tape m_read m_width m_guard m_points m_stages m_gain m_undo m_near m_quarter m_ln m_angle m_shift m_digit = some o) : Std g l yX11_unit (.code yX11_unit cX11_unit 1 (some .int) :: gw) rm_X11_unit A [.ref (q 0)] (wM g q m_thrown m_length m_at m_fault m_toldWords m_orders m_value m_hasUnit m_places m_clocks m_held m_x m_y m_z m_first m_second m_aside m_jobs m_jobsImage m_clocksImage m_heldImage m_hasImage m_tape m_read m_order m_width m_guard m_points m_stages m_gain m_undo m_near m_quarter m_ln m_angle m_shift m_digit m_refused m_job m_jobKept m_result m_resultKept m_trace m_traceKept m_jobImage m_resultImage m_traceImage) (wM g q o.2.1 o.2.2.1 o.2.2.2.1 o.2.2.2.2.1 o.2.2.2.2.2.1 m_orders m_value o.2.2.2.2.2.2.1 o.2.2.2.2.2.2.2.1 o.2.2.2.2.2.2.2.2.1 o.2.2.2.2.2.2.2.2.2.1 m_x m_y m_z m_first m_second m_aside o.2.2.2.2.2.2.2.2.2.2.1 m_jobsImage m_clocksImage m_heldImage o.2.2.2.2.2.2.2.2.2.2.2.1 m_tape o.2.2.2.2.2.2.2.2.2.2.2.2.1 m_order o.2.2.2.2.2.2.2.2.2.2.2.2.2.1 o.2.2.2.2.2.2.2.2.2.2.2.2.2.2.1 o.2.2.2.2.2.2.2.2.2.2.2.2.2.2.2.1 o.2.2.2.2.2.2.2.2.2.2.2.2.2.2.2.2.1 o.2.2.2.2.2.2.2.2.2.2.2.2.2.2.2.2.2.1 o.2.2.2.2.2.2.2.2.2.2.2.2.2.2.2.2.2.2.1 o.2.2.2.2.2.2.2.2.2.2.2.2.2.2.2.2.2.2.2.1 o.2.2.2.2.2.2.2.2.2.2.2.2.2.2.2.2.2.2.2.2.1 o.2.2.2.2.2.2.2.2.2.2.2.2.2.2.2.2.2.2.2.2.2.1 o.2.2.2.2.2.2.2.2.2.2.2.2.2.2.2.2.2.2.2.2.2.2.1 m_shift o.2.2.2.2.2.2.2.2.2.2.2.2.2.2.2.2.2.2.2.2.2.2.2 m_refused m_job m_jobKept m_result m_resultKept m_trace m_traceKept m_jobImage m_resultImage m_traceImage) (some (.int o.1)) := by
  refine std_i (own := RX11) (by decide +kernel) rfl (Nat.le_of_ble_eq_true rfl) ?_
  intro p e s m args below meth c Q X ret H locs hP hS ls hl
  have hx := X.1
  have hb := X.2.1
  have hl : lv_has ls 1 [(0, .ref (q 0))] := hl
  have ret : ∀ {H : Heap} {locs : List Loc} {pc : Nat} {ls : Array Slot} {v : Int32} {m_thrown : Int32} {m_length : Int32} {m_at : Int32} {m_fault : Int32} {m_toldWords : Int32} {m_hasUnit : Bool} {m_places : Int32} {m_clocks : Int32} {m_held : Bool} {m_jobs : Int32} {m_hasImage : Bool} {m_read : Nat → Int32} {m_width : Nat → Int32} {m_guard : Nat → Int32} {m_points : Nat → Int32} {m_stages : Nat → Int32} {m_gain : Nat → Int32} {m_undo : Nat → Int32} {m_near : Nat → Bool} {m_quarter : Nat → Int64} {m_ln : Nat → Int64} {m_angle : Nat → Int64} {m_digit : Nat → Int32}, some (v, m_thrown, m_length, m_at, m_fault, m_toldWords, m_hasUnit, m_places, m_clocks, m_held, m_jobs, m_hasImage, m_read, m_width, m_guard, m_points, m_stages, m_gain, m_undo, m_near, m_quarter, m_ln, m_angle, m_digit) = some o → WP g A (wM g q m_thrown m_length m_at m_fault m_toldWords m_orders m_value m_hasUnit m_places m_clocks m_held m_x m_y m_z m_first m_second m_aside m_jobs m_jobsImage m_clocksImage m_heldImage m_hasImage m_tape m_read m_order m_width m_guard m_points m_stages m_gain m_undo m_near m_quarter m_ln m_angle m_shift m_digit m_refused m_job m_jobKept m_result m_resultKept m_trace m_traceKept m_jobImage m_resultImage m_traceImage) H → va_S A s.heap H locs → decode cX11_unit pc = .ok (.ireturn, 1) → W p l e rm_X11_unit s m args below meth c H locs 0 0 Q (F0 m pc ls [.int v]) := by
    intro H locs pc ls v m_thrown m_length m_at m_fault m_toldWords m_hasUnit m_places m_clocks m_held m_jobs m_hasImage m_read m_width m_guard m_points m_stages m_gain m_undo m_near m_quarter m_ln m_angle m_digit h hP hS hd
    cases h
    exact ret hP hS hd
  have b88 : ∀ (t1 : Int32) (m_thrown : Int32) (m_length : Int32) (m_at : Int32) (m_fault : Int32) (m_toldWords : Int32) (m_hasUnit : Bool) (m_places : Int32) (m_clocks : Int32) (m_held : Bool) (m_jobs : Int32) (m_hasImage : Bool) (m_read : Nat → Int32) (m_width : Nat → Int32) (m_guard : Nat → Int32) (m_points : Nat → Int32) (m_stages : Nat → Int32) (m_gain : Nat → Int32) (m_undo : Nat → Int32) (m_near : Nat → Bool) (m_quarter : Nat → Int64) (m_ln : Nat → Int64) (m_angle : Nat → Int64) (m_digit : Nat → Int32) (H : Heap) (locs : List Loc) (ls : Array Slot), f_X11_unit_b88  m_tape m_shift  t1 m_thrown m_length m_at m_fault m_toldWords m_hasUnit m_places m_clocks m_held m_jobs m_hasImage m_read m_width m_guard m_points m_stages m_gain m_undo m_near m_quarter m_ln m_angle m_digit = some o → WP g A (wM g q m_thrown m_length m_at m_fault m_toldWords m_orders m_value m_hasUnit m_places m_clocks m_held m_x m_y m_z m_first m_second m_aside m_jobs m_jobsImage m_clocksImage m_heldImage m_hasImage m_tape m_read m_order m_width m_guard m_points m_stages m_gain m_undo m_near m_quarter m_ln m_angle m_shift m_digit m_refused m_job m_jobKept m_result m_resultKept m_trace m_traceKept m_jobImage m_resultImage m_traceImage) H → va_S A s.heap H locs → lv_has ls 1 [(0, .ref (q 0))] → W p l e rm_X11_unit s m args below meth c H locs 0 0 Q (F0 m 88 ls [.int t1, .ref (q 0)]) := by
    intro  t1 m_thrown m_length m_at m_fault m_toldWords m_hasUnit m_places m_clocks m_held m_jobs m_hasImage m_read m_width m_guard m_points m_stages m_gain m_undo m_near m_quarter m_ln m_angle m_digit H locs ls h hP hS hl
    unfold f_X11_unit_b88 at h
    refine pf_X11_264_M_0 (v0 := t1) X hP hS dX11_unit_88 (fun H locs hP hS => ?_)
    refine lv_aload_n hx hb dX11_unit_91 rfl (lv_at hl 0 rfl) ?_
    refine lv_iconst (v := 0) hx hb dX11_unit_92 rfl ?_
    refine pf_X11_267_M_0 (v0 := (0 : Int32)) X hP hS dX11_unit_93 (fun H locs hP hS => ?_)
    refine lv_aload_n hx hb dX11_unit_96 rfl (lv_at hl 0 rfl) ?_
    refine lv_iconst (v := 0) hx hb dX11_unit_97 rfl ?_
    refine pf_X11_270_M_0 (v0 := false) X hP hS dX11_unit_98 (fun H locs hP hS => ?_)
    refine lv_aload_n hx hb dX11_unit_101 rfl (lv_at hl 0 rfl) ?_
    refine lv_iconst (v := 0) hx hb dX11_unit_102 rfl ?_
    refine pf_X11_273_M_0 (v0 := (0 : Int32)) X hP hS dX11_unit_103 (fun H locs hP hS => ?_)
    refine lv_aload_n hx hb dX11_unit_106 rfl (lv_at hl 0 rfl) ?_
    refine lv_iconst (v := 0) hx hb dX11_unit_107 rfl ?_
    refine pf_X11_276_M_0 (v0 := false) X hP hS dX11_unit_108 (fun H locs hP hS => ?_)
    refine lv_aload_n hx hb dX11_unit_111 rfl (lv_at hl 0 rfl) ?_
    refine gf_X11_171_M_0 X hP dX11_unit_112 ?_
    refine lv_iconst (v := 0) hx hb dX11_unit_115 rfl ?_
    obtain ⟨hi116, h⟩ := gv_of h
    refine al_M_7 X hP hi116 dX11_unit_116 ?_
    exact ret h hP hS dX11_unit_117
  unfold f_X11_unit at h
  refine lv_aload_n hx hb dX11_unit_0 rfl (lv_at hl 0 rfl) ?_
  refine lv_iconst (v := 0) hx hb dX11_unit_1 rfl ?_
  refine pf_X11_5_M_0 (v0 := (0 : Int32)) X hP hS dX11_unit_2 (fun H locs hP hS => ?_)
  refine lv_aload_n hx hb dX11_unit_5 rfl (lv_at hl 0 rfl) ?_
  obtain ⟨o1, hco1, h⟩ := bd_of h
  refine kV (rest := []) X dX11_unit_6 wd_5_106 mw_X11_readsUnit wd_5_108 wp_6_9 hP (k0 := 0) rfl rfl rfl hS (fun _ z => z) (c_X11_readsUnit hco1) rfl hl.1 rfl (Nat.le_of_ble_eq_true rfl) rfl rfl ⟨Nat.le_of_ble_eq_true rfl, Nat.le_of_ble_eq_true rfl⟩ (fun H locs hP _ _ hS => ?_)
  refine W.eq (g2 := F0 m 9 ls [.int o1.1]) rfl ?_
  refine lv_iconst (v := (-1)) hx hb dX11_unit_9 rfl ?_
  refine lv_icmp_eq (tgt := 15) hx hb dX11_unit_10 rfl (fun c10 => ?_) (fun c10 => ?_)
  · have h := br_p c10 h
    refine lv_aload_n hx hb dX11_unit_15 rfl (lv_at hl 0 rfl) ?_
    refine lv_iconst (v := 0) hx hb dX11_unit_16 rfl ?_
    refine pf_X11_13_M_0 (v0 := (0 : Int32)) X hP hS dX11_unit_17 (fun H locs hP hS => ?_)
    refine lv_aload_n hx hb dX11_unit_20 rfl (lv_at hl 0 rfl) ?_
    refine lv_iconst (v := 1) hx hb dX11_unit_21 rfl ?_
    refine pf_X11_260_M_0 (v0 := true) X hP hS dX11_unit_22 (fun H locs hP hS => ?_)
    refine lv_aload_n hx hb dX11_unit_25 rfl (lv_at hl 0 rfl) ?_
    refine lv_iconst (v := 0) hx hb dX11_unit_26 rfl ?_
    refine lv_aload_n hx hb dX11_unit_27 rfl (lv_at hl 0 rfl) ?_
    refine gf_X11_81_M_0 X hP dX11_unit_28 ?_
    refine lv_iconst (v := 0) hx hb dX11_unit_31 rfl ?_
    obtain ⟨hi32, h⟩ := gv_of h
    refine al_M_2 X hP hi32 dX11_unit_32 ?_
    refine lv_aload_n hx hb dX11_unit_33 rfl (lv_at hl 0 rfl) ?_
    refine gf_X11_81_M_0 X hP dX11_unit_34 ?_
    refine lv_iconst (v := 1) hx hb dX11_unit_37 rfl ?_
    obtain ⟨hi38, h⟩ := gv_of h
    refine al_M_2 X hP hi38 dX11_unit_38 ?_
    refine lv_aload_n hx hb dX11_unit_39 rfl (lv_at hl 0 rfl) ?_
    refine gf_X11_81_M_0 X hP dX11_unit_40 ?_
    refine lv_iconst (v := 2) hx hb dX11_unit_43 rfl ?_
    obtain ⟨hi44, h⟩ := gv_of h
    refine al_M_2 X hP hi44 dX11_unit_44 ?_
    refine lv_aload_n hx hb dX11_unit_45 rfl (lv_at hl 0 rfl) ?_
    refine gf_X11_81_M_0 X hP dX11_unit_46 ?_
    refine lv_iconst (v := 4) hx hb dX11_unit_49 rfl ?_
    obtain ⟨hi50, h⟩ := gv_of h
    refine al_M_2 X hP hi50 dX11_unit_50 ?_
    refine lv_iconst (v := 1) hx hb dX11_unit_51 rfl ?_
    refine jx1 h (P := fun (v2 : Bool) => ∀ ls : Array Slot, lv_has ls 1 [(0, .ref (q 0))] → W p l e rm_X11_unit s m args below meth c H locs 0 0 Q (F0 m 60 ls [.int (bI v2), .int (o1.2.2.2.2 ((2 : Int32)).toNatClampNeg), .int (o1.2.2.2.2 ((1 : Int32)).toNatClampNeg), .int (o1.2.2.2.2 ((0 : Int32)).toNatClampNeg), .int 0, .ref (q 0)])) ?_ ?_
    · intro v2 h ls hl
      obtain ⟨o3, hco3, h⟩ := bd_of h
      refine kV (rest := []) X dX11_unit_60 wd_5_197 mw_X11_lays wd_5_199 wp_7_8 hP (k0 := 0) rfl rfl rfl hS (fun _ z => z) (c_X11_lays hco3) rfl hl.1 rfl (Nat.le_of_ble_eq_true rfl) rfl rfl ⟨Nat.le_of_ble_eq_true rfl, Nat.le_of_ble_eq_true rfl⟩ (fun H locs hP _ _ hS => ?_)
      refine W.eq (g2 := F0 m 63 ls []) rfl ?_
      refine lv_aload_n hx hb dX11_unit_63 rfl (lv_at hl 0 rfl) ?_
      refine lv_aload_n hx hb dX11_unit_64 rfl (lv_at hl 0 rfl) ?_
      refine gf_X11_81_M_0 X hP dX11_unit_65 ?_
      refine lv_iconst (v := 3) hx hb dX11_unit_68 rfl ?_
      obtain ⟨hi69, h⟩ := gv_of h
      refine al_M_2 X hP hi69 dX11_unit_69 ?_
      refine lv_if_ne (tgt := 82) hx hb dX11_unit_70 rfl (fun c70 => ?_) (fun c70 => ?_)
      · have h := br_n c70 h
        refine lv_aload_n hx hb dX11_unit_82 rfl (lv_at hl 0 rfl) ?_
        refine gf_X11_81_M_0 X hP dX11_unit_83 ?_
        refine lv_iconst (v := 3) hx hb dX11_unit_86 rfl ?_
        obtain ⟨hi87, h⟩ := gv_of h
        refine al_M_2 X hP hi87 dX11_unit_87 ?_
        exact b88   (o1.2.2.2.2 ((3 : Int32)).toNatClampNeg) (0 : Int32) (0 : Int32) o1.2.1 o1.2.2.1 o1.2.2.2.1 true m_places m_clocks m_held m_jobs m_hasImage o1.2.2.2.2 o3.1 o3.2.1 o3.2.2.1 o3.2.2.2.1 o3.2.2.2.2.1 o3.2.2.2.2.2.1 o3.2.2.2.2.2.2.1 o3.2.2.2.2.2.2.2.1 o3.2.2.2.2.2.2.2.2.1 o3.2.2.2.2.2.2.2.2.2.1 o3.2.2.2.2.2.2.2.2.2.2 _ _ _ h hP hS (lv_sub hl [0] rfl)
      · have h := br_p c70 h
        refine lv_aload_n hx hb dX11_unit_73 rfl (lv_at hl 0 rfl) ?_
        refine gf_X11_171_M_0 X hP dX11_unit_74 ?_
        refine lv_iconst (v := 0) hx hb dX11_unit_77 rfl ?_
        obtain ⟨hi78, h⟩ := gv_of h
        refine al_M_7 X hP hi78 dX11_unit_78 ?_
        refine lv_goto (tgt := 88) hx hb dX11_unit_79 rfl ?_
        exact b88   (o3.2.2.2.1 ((0 : Int32)).toNatClampNeg) (0 : Int32) (0 : Int32) o1.2.1 o1.2.2.1 o1.2.2.2.1 true m_places m_clocks m_held m_jobs m_hasImage o1.2.2.2.2 o3.1 o3.2.1 o3.2.2.1 o3.2.2.2.1 o3.2.2.2.2.1 o3.2.2.2.2.2.1 o3.2.2.2.2.2.2.1 o3.2.2.2.2.2.2.2.1 o3.2.2.2.2.2.2.2.2.1 o3.2.2.2.2.2.2.2.2.2.1 o3.2.2.2.2.2.2.2.2.2.2 _ _ _ h hP hS (lv_sub hl [0] rfl)
    · intro J h
      refine lv_icmp_ne (tgt := 59) hx hb dX11_unit_52 rfl (fun c52 => ?_) (fun c52 => ?_)
      · refine lv_iconst (v := 0) hx hb dX11_unit_59 rfl ?_
        exact J _ (lt_in c52 h) ls (lv_sub hl [0] rfl)
      · refine lv_iconst (v := 1) hx hb dX11_unit_55 rfl ?_
        refine lv_goto (tgt := 60) hx hb dX11_unit_56 rfl ?_
        exact J _ (lt_ip c52 h) ls (lv_sub hl [0] rfl)
  · have h := br_n c10 h
    refine lv_iconst (v := (-1)) hx hb dX11_unit_13 rfl ?_
    exact ret h hP hS dX11_unit_14
abbrev rm_X11_constant : Room := { frames := 2, cells := 0, slots := 0, locals := 48 }
set_option maxRecDepth 100000 in
set_option maxHeartbeats 4000000 in
theorem c_X11_constant {g : gT} {l : Launch} {A : Nat → Prop} {q : Nat → Nat} {m_thrown : Int32} {m_length : Int32} {m_at : Int32} {m_fault : Int32} {m_toldWords : Int32} {m_orders : Int32} {m_value : Int32} {m_hasUnit : Bool} {m_places : Int32} {m_clocks : Int32} {m_held : Bool} {m_x : Int64} {m_y : Int64} {m_z : Int64} {m_first : Int64} {m_second : Int64} {m_aside : Int32} {m_jobs : Int32} {m_jobsImage : Int32} {m_clocksImage : Int32} {m_heldImage : Bool} {m_hasImage : Bool} {m_tape : Nat → Int32} {m_read : Nat → Int32} {m_order : Nat → Int32} {m_width : Nat → Int32} {m_guard : Nat → Int32} {m_points : Nat → Int32} {m_stages : Nat → Int32} {m_gain : Nat → Int32} {m_undo : Nat → Int32} {m_near : Nat → Bool} {m_quarter : Nat → Int64} {m_ln : Nat → Int64} {m_angle : Nat → Int64} {m_shift : Nat → Int32} {m_digit : Nat → Int32} {m_refused : Nat → Int32} {m_job : Nat → Int32} {m_jobKept : Nat → Int32} {m_result : Nat → Int32} {m_resultKept : Nat → Int32} {m_trace : Nat → Int64} {m_traceKept : Nat → Int64} {m_jobImage : Nat → Int32} {m_resultImage : Nat → Int32} {m_traceImage : Nat → Int64} {p0 : Int32} {o : Int32 × Int32} (h : f_X11_constant p0 m_thrown m_hasUnit m_points m_quarter m_ln = some o) : Std g l yX11_constant (.code yX11_constant cX11_constant 2 (some .int) :: gw) rm_X11_constant A [.ref (q 0), .int p0] (wM g q m_thrown m_length m_at m_fault m_toldWords m_orders m_value m_hasUnit m_places m_clocks m_held m_x m_y m_z m_first m_second m_aside m_jobs m_jobsImage m_clocksImage m_heldImage m_hasImage m_tape m_read m_order m_width m_guard m_points m_stages m_gain m_undo m_near m_quarter m_ln m_angle m_shift m_digit m_refused m_job m_jobKept m_result m_resultKept m_trace m_traceKept m_jobImage m_resultImage m_traceImage) (wM g q o.2 m_length m_at m_fault m_toldWords m_orders m_value m_hasUnit m_places m_clocks m_held m_x m_y m_z m_first m_second m_aside m_jobs m_jobsImage m_clocksImage m_heldImage m_hasImage m_tape m_read m_order m_width m_guard m_points m_stages m_gain m_undo m_near m_quarter m_ln m_angle m_shift m_digit m_refused m_job m_jobKept m_result m_resultKept m_trace m_traceKept m_jobImage m_resultImage m_traceImage) (some (.int o.1)) := by
  refine std_i (own := RX11) (by decide +kernel) rfl (Nat.le_of_ble_eq_true rfl) ?_
  intro p e s m args below meth c Q X ret H locs hP hS ls hl
  have hx := X.1
  have hb := X.2.1
  have hl : lv_has ls 2 [(0, .ref (q 0)), (1, .int p0)] := hl
  have ret : ∀ {H : Heap} {locs : List Loc} {pc : Nat} {ls : Array Slot} {v : Int32} {m_thrown : Int32}, some (v, m_thrown) = some o → WP g A (wM g q m_thrown m_length m_at m_fault m_toldWords m_orders m_value m_hasUnit m_places m_clocks m_held m_x m_y m_z m_first m_second m_aside m_jobs m_jobsImage m_clocksImage m_heldImage m_hasImage m_tape m_read m_order m_width m_guard m_points m_stages m_gain m_undo m_near m_quarter m_ln m_angle m_shift m_digit m_refused m_job m_jobKept m_result m_resultKept m_trace m_traceKept m_jobImage m_resultImage m_traceImage) H → va_S A s.heap H locs → decode cX11_constant pc = .ok (.ireturn, 1) → W p l e rm_X11_constant s m args below meth c H locs 0 0 Q (F0 m pc ls [.int v]) := by
    intro H locs pc ls v m_thrown h hP hS hd
    cases h
    exact ret hP hS hd
  have b24 : ∀ (m_thrown : Int32) (H : Heap) (locs : List Loc) (ls : Array Slot), f_X11_constant_b24  m_hasUnit m_points m_quarter m_ln  m_thrown = some o → WP g A (wM g q m_thrown m_length m_at m_fault m_toldWords m_orders m_value m_hasUnit m_places m_clocks m_held m_x m_y m_z m_first m_second m_aside m_jobs m_jobsImage m_clocksImage m_heldImage m_hasImage m_tape m_read m_order m_width m_guard m_points m_stages m_gain m_undo m_near m_quarter m_ln m_angle m_shift m_digit m_refused m_job m_jobKept m_result m_resultKept m_trace m_traceKept m_jobImage m_resultImage m_traceImage) H → va_S A s.heap H locs → lv_has ls 2 [] → W p l e rm_X11_constant s m args below meth c H locs 0 0 Q (F0 m 24 ls []) := by
    intro  m_thrown H locs ls h hP hS hl
    unfold f_X11_constant_b24 at h
    refine lv_iconst (v := (-1)) hx hb dX11_constant_24 rfl ?_
    exact ret h hP hS dX11_constant_25
  have b65 : ∀ (t0 : Int64) (m_thrown : Int32) (H : Heap) (locs : List Loc) (ls : Array Slot), f_X11_constant_b65  m_hasUnit m_points m_quarter m_ln  t0 m_thrown = some o → WP g A (wM g q m_thrown m_length m_at m_fault m_toldWords m_orders m_value m_hasUnit m_places m_clocks m_held m_x m_y m_z m_first m_second m_aside m_jobs m_jobsImage m_clocksImage m_heldImage m_hasImage m_tape m_read m_order m_width m_guard m_points m_stages m_gain m_undo m_near m_quarter m_ln m_angle m_shift m_digit m_refused m_job m_jobKept m_result m_resultKept m_trace m_traceKept m_jobImage m_resultImage m_traceImage) H → va_S A s.heap H locs → lv_has ls 2 [] → W p l e rm_X11_constant s m args below meth c H locs 0 0 Q (F0 m 65 ls [.long t0]) := by
    intro  t0 m_thrown H locs ls h hP hS hl
    unfold f_X11_constant_b65 at h
    refine lv_l2i hx hb dX11_constant_65 rfl ?_
    exact ret h hP hS dX11_constant_66
  unfold f_X11_constant at h
  refine lv_aload_n hx hb dX11_constant_0 rfl (lv_at hl 0 rfl) ?_
  refine lv_iconst (v := 0) hx hb dX11_constant_1 rfl ?_
  refine pf_X11_5_M_0 (v0 := (0 : Int32)) X hP hS dX11_constant_2 (fun H locs hP hS => ?_)
  refine lv_aload_n hx hb dX11_constant_5 rfl (lv_at hl 0 rfl) ?_
  refine gf_X11_260_M_0 X hP dX11_constant_6 ?_
  refine rb_eq (tgt := 24) hx hb dX11_constant_9 rfl (fun c9 => ?_) (fun c9 => ?_)
  · have h := br_n c9 h
    exact b24   (0 : Int32) _ _ _ h hP hS (lv_sub hl [] rfl)
  · have h := br_p c9 h
    refine lv_iload_n hx hb dX11_constant_12 rfl (lv_at hl 1 rfl) ?_
    refine lv_i2l hx hb dX11_constant_13 rfl ?_
    refine lv_lconst (v := 0) hx hb dX11_constant_14 rfl ?_
    refine lv_ldc2 (v := 2) hx hb X.2.2.2.1 (X.2.2.2.2.1 _ wd_5_201) dX11_constant_15 ?_
    obtain ⟨o1, hco1, h⟩ := bd_of h
    refine kS (rest := []) X dX11_constant_18 wd_5_153 mw_X11_isIn wd_5_154 hP hS (fun _ z => z) (c_X11_isIn hco1) rfl hl.1 rfl (Nat.le_of_ble_eq_true rfl) rfl rfl ⟨Nat.le_of_ble_eq_true rfl, Nat.le_of_ble_eq_true rfl⟩ (fun H locs hP _ _ hS => ?_)
    refine W.eq (g2 := F0 m 21 ls [.int (bI o1)]) rfl ?_
    refine rb_ne (tgt := 26) hx hb dX11_constant_21 rfl (fun c21 => ?_) (fun c21 => ?_)
    · have h := br_p c21 h
      refine lv_iload_n hx hb dX11_constant_26 rfl (lv_at hl 1 rfl) ?_
      refine lv_if_ne (tgt := 39) hx hb dX11_constant_27 rfl (fun c27 => ?_) (fun c27 => ?_)
      · have h := br_n c27 h
        refine lv_iload_n hx hb dX11_constant_39 rfl (lv_at hl 1 rfl) ?_
        refine lv_iconst (v := 1) hx hb dX11_constant_40 rfl ?_
        refine lv_icmp_ne (tgt := 53) hx hb dX11_constant_41 rfl (fun c41 => ?_) (fun c41 => ?_)
        · have h := br_n c41 h
          obtain ⟨o2, hco2, h⟩ := bd_of h
          refine kS (rest := []) X dX11_constant_53 wd_5_202 mw_X11_eighth wd_5_203 hP hS (fun _ z => z) (c_X11_eighth hco2) rfl hl.1 rfl (Nat.le_of_ble_eq_true rfl) rfl rfl ⟨Nat.le_of_ble_eq_true rfl, Nat.le_of_ble_eq_true rfl⟩ (fun H locs hP _ _ hS => ?_)
          refine W.eq (g2 := F0 m 56 ls [.long o2]) rfl ?_
          refine lv_aload_n hx hb dX11_constant_56 rfl (lv_at hl 0 rfl) ?_
          refine gf_X11_173_M_0 X hP dX11_constant_57 ?_
          refine lv_iconst (v := 0) hx hb dX11_constant_60 rfl ?_
          obtain ⟨hi61, h⟩ := gv_of h
          refine al_M_6 X hP hi61 dX11_constant_61 ?_
          obtain ⟨o3, hco3, h⟩ := bd_of h
          refine kS (rest := []) X dX11_constant_62 wd_5_212 mw_X11_by wd_5_213 hP hS (fun _ z => z) (c_X11_by hco3) rfl hl.1 rfl (Nat.le_of_ble_eq_true rfl) rfl rfl ⟨Nat.le_of_ble_eq_true rfl, Nat.le_of_ble_eq_true rfl⟩ (fun H locs hP _ _ hS => ?_)
          refine W.eq (g2 := F0 m 65 ls [.long o3]) rfl ?_
          exact b65   o3 (0 : Int32) _ _ _ h hP hS (lv_sub hl [] rfl)
        · have h := br_p c41 h
          refine lv_aload_n hx hb dX11_constant_44 rfl (lv_at hl 0 rfl) ?_
          refine gf_X11_203_M_0 X hP dX11_constant_45 ?_
          refine lv_iconst (v := 0) hx hb dX11_constant_48 rfl ?_
          obtain ⟨hi49, h⟩ := gv_of h
          refine al_M_12 X hP hi49 dX11_constant_49 ?_
          refine lv_goto (tgt := 65) hx hb dX11_constant_50 rfl ?_
          exact b65   (m_ln ((0 : Int32)).toNatClampNeg) (0 : Int32) _ _ _ h hP hS (lv_sub hl [] rfl)
      · have h := br_p c27 h
        refine lv_aload_n hx hb dX11_constant_30 rfl (lv_at hl 0 rfl) ?_
        refine gf_X11_199_M_0 X hP dX11_constant_31 ?_
        refine lv_iconst (v := 0) hx hb dX11_constant_34 rfl ?_
        obtain ⟨hi35, h⟩ := gv_of h
        refine al_M_11 X hP hi35 dX11_constant_35 ?_
        refine lv_goto (tgt := 65) hx hb dX11_constant_36 rfl ?_
        exact b65   (m_quarter ((0 : Int32)).toNatClampNeg) (0 : Int32) _ _ _ h hP hS (lv_sub hl [] rfl)
    · have h := br_n c21 h
      exact b24   (0 : Int32) _ _ _ h hP hS (lv_sub hl [] rfl)
abbrev rm_X11_isMode : Room := { frames := 1, cells := 0, slots := 0, locals := 25 }
set_option maxRecDepth 100000 in
set_option maxHeartbeats 4000000 in
theorem c_X11_isMode {g : gT} {l : Launch} {A : Nat → Prop} {q : Nat → Nat} {m_thrown : Int32} {m_length : Int32} {m_at : Int32} {m_fault : Int32} {m_toldWords : Int32} {m_orders : Int32} {m_value : Int32} {m_hasUnit : Bool} {m_places : Int32} {m_clocks : Int32} {m_held : Bool} {m_x : Int64} {m_y : Int64} {m_z : Int64} {m_first : Int64} {m_second : Int64} {m_aside : Int32} {m_jobs : Int32} {m_jobsImage : Int32} {m_clocksImage : Int32} {m_heldImage : Bool} {m_hasImage : Bool} {m_tape : Nat → Int32} {m_read : Nat → Int32} {m_order : Nat → Int32} {m_width : Nat → Int32} {m_guard : Nat → Int32} {m_points : Nat → Int32} {m_stages : Nat → Int32} {m_gain : Nat → Int32} {m_undo : Nat → Int32} {m_near : Nat → Bool} {m_quarter : Nat → Int64} {m_ln : Nat → Int64} {m_angle : Nat → Int64} {m_shift : Nat → Int32} {m_digit : Nat → Int32} {m_refused : Nat → Int32} {m_job : Nat → Int32} {m_jobKept : Nat → Int32} {m_result : Nat → Int32} {m_resultKept : Nat → Int32} {m_trace : Nat → Int64} {m_traceKept : Nat → Int64} {m_jobImage : Nat → Int32} {m_resultImage : Nat → Int32} {m_traceImage : Nat → Int64} {p0 : Int32} {o : Bool} (h : f_X11_isMode p0 m_hasUnit = some o) : Std g l yX11_isMode (.code yX11_isMode cX11_isMode 2 (some .boolean) :: gw) rm_X11_isMode A [.ref (q 0), .int p0] (wM g q m_thrown m_length m_at m_fault m_toldWords m_orders m_value m_hasUnit m_places m_clocks m_held m_x m_y m_z m_first m_second m_aside m_jobs m_jobsImage m_clocksImage m_heldImage m_hasImage m_tape m_read m_order m_width m_guard m_points m_stages m_gain m_undo m_near m_quarter m_ln m_angle m_shift m_digit m_refused m_job m_jobKept m_result m_resultKept m_trace m_traceKept m_jobImage m_resultImage m_traceImage) (wM g q m_thrown m_length m_at m_fault m_toldWords m_orders m_value m_hasUnit m_places m_clocks m_held m_x m_y m_z m_first m_second m_aside m_jobs m_jobsImage m_clocksImage m_heldImage m_hasImage m_tape m_read m_order m_width m_guard m_points m_stages m_gain m_undo m_near m_quarter m_ln m_angle m_shift m_digit m_refused m_job m_jobKept m_result m_resultKept m_trace m_traceKept m_jobImage m_resultImage m_traceImage) (some (.int (bI o))) := by
  refine std_z (own := RX11) (by decide +kernel) rfl (Nat.le_of_ble_eq_true rfl) ?_
  intro p e s m args below meth c Q X ret H locs hP hS ls hl
  have hx := X.1
  have hb := X.2.1
  have hl : lv_has ls 2 [(0, .ref (q 0)), (1, .int p0)] := hl
  have ret : ∀ {H : Heap} {locs : List Loc} {pc : Nat} {ls : Array Slot} {v : Bool} , some (v) = some o → WP g A (wM g q m_thrown m_length m_at m_fault m_toldWords m_orders m_value m_hasUnit m_places m_clocks m_held m_x m_y m_z m_first m_second m_aside m_jobs m_jobsImage m_clocksImage m_heldImage m_hasImage m_tape m_read m_order m_width m_guard m_points m_stages m_gain m_undo m_near m_quarter m_ln m_angle m_shift m_digit m_refused m_job m_jobKept m_result m_resultKept m_trace m_traceKept m_jobImage m_resultImage m_traceImage) H → va_S A s.heap H locs → decode cX11_isMode pc = .ok (.ireturn, 1) → W p l e rm_X11_isMode s m args below meth c H locs 0 0 Q (F0 m pc ls [.int (bI v)]) := by
    intro H locs pc ls v h hP hS hd
    cases h
    exact ret hP hS hd
  have b23 : ∀  (H : Heap) (locs : List Loc) (ls : Array Slot), f_X11_isMode_b23  m_hasUnit   = some o → WP g A (wM g q m_thrown m_length m_at m_fault m_toldWords m_orders m_value m_hasUnit m_places m_clocks m_held m_x m_y m_z m_first m_second m_aside m_jobs m_jobsImage m_clocksImage m_heldImage m_hasImage m_tape m_read m_order m_width m_guard m_points m_stages m_gain m_undo m_near m_quarter m_ln m_angle m_shift m_digit m_refused m_job m_jobKept m_result m_resultKept m_trace m_traceKept m_jobImage m_resultImage m_traceImage) H → va_S A s.heap H locs → lv_has ls 2 [] → W p l e rm_X11_isMode s m args below meth c H locs 0 0 Q (F0 m 23 ls []) := by
    intro   H locs ls h hP hS hl
    unfold f_X11_isMode_b23 at h
    refine lv_iconst (v := 0) hx hb dX11_isMode_23 rfl ?_
    exact ret h hP hS dX11_isMode_24
  unfold f_X11_isMode at h
  refine lv_aload_n hx hb dX11_isMode_0 rfl (lv_at hl 0 rfl) ?_
  refine gf_X11_260_M_0 X hP dX11_isMode_1 ?_
  refine rb_eq (tgt := 23) hx hb dX11_isMode_4 rfl (fun c4 => ?_) (fun c4 => ?_)
  · have h := br_n c4 h
    exact b23    _ _ _ h hP hS (lv_sub hl [] rfl)
  · have h := br_p c4 h
    refine lv_iload_n hx hb dX11_isMode_7 rfl (lv_at hl 1 rfl) ?_
    refine lv_i2l hx hb dX11_isMode_8 rfl ?_
    refine lv_lconst (v := 0) hx hb dX11_isMode_9 rfl ?_
    refine lv_ldc2 (v := 2) hx hb X.2.2.2.1 (X.2.2.2.2.1 _ wd_5_201) dX11_isMode_10 ?_
    obtain ⟨o1, hco1, h⟩ := bd_of h
    refine kS (rest := []) X dX11_isMode_13 wd_5_153 mw_X11_isIn wd_5_154 hP hS (fun _ z => z) (c_X11_isIn hco1) rfl hl.1 rfl (Nat.le_of_ble_eq_true rfl) rfl rfl ⟨Nat.le_of_ble_eq_true rfl, Nat.le_of_ble_eq_true rfl⟩ (fun H locs hP _ _ hS => ?_)
    refine W.eq (g2 := F0 m 16 ls [.int (bI o1)]) rfl ?_
    refine jx1 h (P := fun (v2 : Bool) => ∀ ls : Array Slot, lv_has ls 2 [] → W p l e rm_X11_isMode s m args below meth c H locs 0 0 Q (F0 m 24 ls [.int (bI v2)])) ?_ ?_
    · intro v2 h ls hl
      exact ret h hP hS dX11_isMode_24
    · intro J h
      refine rb_eq (tgt := 23) hx hb dX11_isMode_16 rfl (fun c16 => ?_) (fun c16 => ?_)
      · refine lv_iconst (v := 0) hx hb dX11_isMode_23 rfl ?_
        exact J _ (lt_in c16 h) ls (lv_sub hl [] rfl)
      · refine lv_iconst (v := 1) hx hb dX11_isMode_19 rfl ?_
        refine lv_goto (tgt := 24) hx hb dX11_isMode_20 rfl ?_
        exact J _ (lt_ip c16 h) ls (lv_sub hl [] rfl)
abbrev rm_X11_isWordless : Room := { frames := 0, cells := 0, slots := 0, locals := 0 }
set_option maxRecDepth 100000 in
set_option maxHeartbeats 4000000 in
theorem c_X11_isWordless {g : gT} {l : Launch} {A : Nat → Prop} {q : Nat → Nat} {m_thrown : Int32} {m_length : Int32} {m_at : Int32} {m_fault : Int32} {m_toldWords : Int32} {m_orders : Int32} {m_value : Int32} {m_hasUnit : Bool} {m_places : Int32} {m_clocks : Int32} {m_held : Bool} {m_x : Int64} {m_y : Int64} {m_z : Int64} {m_first : Int64} {m_second : Int64} {m_aside : Int32} {m_jobs : Int32} {m_jobsImage : Int32} {m_clocksImage : Int32} {m_heldImage : Bool} {m_hasImage : Bool} {m_tape : Nat → Int32} {m_read : Nat → Int32} {m_order : Nat → Int32} {m_width : Nat → Int32} {m_guard : Nat → Int32} {m_points : Nat → Int32} {m_stages : Nat → Int32} {m_gain : Nat → Int32} {m_undo : Nat → Int32} {m_near : Nat → Bool} {m_quarter : Nat → Int64} {m_ln : Nat → Int64} {m_angle : Nat → Int64} {m_shift : Nat → Int32} {m_digit : Nat → Int32} {m_refused : Nat → Int32} {m_job : Nat → Int32} {m_jobKept : Nat → Int32} {m_result : Nat → Int32} {m_resultKept : Nat → Int32} {m_trace : Nat → Int64} {m_traceKept : Nat → Int64} {m_jobImage : Nat → Int32} {m_resultImage : Nat → Int32} {m_traceImage : Nat → Int64} {p0 : Int32} {p1 : Int32} {o : Bool} (h : f_X11_isWordless p0 p1 m_points m_angle m_shift = some o) : Std g l yX11_isWordless (.code yX11_isWordless cX11_isWordless 4 (some .boolean) :: gw) rm_X11_isWordless A [.ref (q 0), .int p0, .int p1] (wM g q m_thrown m_length m_at m_fault m_toldWords m_orders m_value m_hasUnit m_places m_clocks m_held m_x m_y m_z m_first m_second m_aside m_jobs m_jobsImage m_clocksImage m_heldImage m_hasImage m_tape m_read m_order m_width m_guard m_points m_stages m_gain m_undo m_near m_quarter m_ln m_angle m_shift m_digit m_refused m_job m_jobKept m_result m_resultKept m_trace m_traceKept m_jobImage m_resultImage m_traceImage) (wM g q m_thrown m_length m_at m_fault m_toldWords m_orders m_value m_hasUnit m_places m_clocks m_held m_x m_y m_z m_first m_second m_aside m_jobs m_jobsImage m_clocksImage m_heldImage m_hasImage m_tape m_read m_order m_width m_guard m_points m_stages m_gain m_undo m_near m_quarter m_ln m_angle m_shift m_digit m_refused m_job m_jobKept m_result m_resultKept m_trace m_traceKept m_jobImage m_resultImage m_traceImage) (some (.int (bI o))) := by
  refine std_z (own := RX11) (by decide +kernel) rfl (Nat.le_of_ble_eq_true rfl) ?_
  intro p e s m args below meth c Q X ret H locs hP hS ls hl
  have hx := X.1
  have hb := X.2.1
  have hl : lv_has ls 4 [(0, .ref (q 0)), (1, .int p0), (2, .int p1)] := hl
  have ret : ∀ {H : Heap} {locs : List Loc} {pc : Nat} {ls : Array Slot} {v : Bool} , some (v) = some o → WP g A (wM g q m_thrown m_length m_at m_fault m_toldWords m_orders m_value m_hasUnit m_places m_clocks m_held m_x m_y m_z m_first m_second m_aside m_jobs m_jobsImage m_clocksImage m_heldImage m_hasImage m_tape m_read m_order m_width m_guard m_points m_stages m_gain m_undo m_near m_quarter m_ln m_angle m_shift m_digit m_refused m_job m_jobKept m_result m_resultKept m_trace m_traceKept m_jobImage m_resultImage m_traceImage) H → va_S A s.heap H locs → decode cX11_isWordless pc = .ok (.ireturn, 1) → W p l e rm_X11_isWordless s m args below meth c H locs 0 0 Q (F0 m pc ls [.int (bI v)]) := by
    intro H locs pc ls v h hP hS hd
    cases h
    exact ret hP hS hd
  have b51 : ∀  (H : Heap) (locs : List Loc) (ls : Array Slot), f_X11_isWordless_b51  m_points m_angle m_shift   = some o → WP g A (wM g q m_thrown m_length m_at m_fault m_toldWords m_orders m_value m_hasUnit m_places m_clocks m_held m_x m_y m_z m_first m_second m_aside m_jobs m_jobsImage m_clocksImage m_heldImage m_hasImage m_tape m_read m_order m_width m_guard m_points m_stages m_gain m_undo m_near m_quarter m_ln m_angle m_shift m_digit m_refused m_job m_jobKept m_result m_resultKept m_trace m_traceKept m_jobImage m_resultImage m_traceImage) H → va_S A s.heap H locs → lv_has ls 4 [] → W p l e rm_X11_isWordless s m args below meth c H locs 0 0 Q (F0 m 51 ls []) := by
    intro   H locs ls h hP hS hl
    unfold f_X11_isWordless_b51 at h
    refine lv_iconst (v := 0) hx hb dX11_isWordless_51 rfl ?_
    exact ret h hP hS dX11_isWordless_52
  unfold f_X11_isWordless at h
  refine lv_aload_n hx hb dX11_isWordless_0 rfl (lv_at hl 0 rfl) ?_
  refine gf_X11_154_M_0 X hP dX11_isWordless_1 ?_
  refine lv_bipush (v := 24) hx hb dX11_isWordless_4 rfl ?_
  refine lv_iload_n hx hb dX11_isWordless_6 rfl (lv_at hl 1 rfl) ?_
  refine lv_imul hx hb dX11_isWordless_7 ?_
  refine lv_iload_n hx hb dX11_isWordless_8 rfl (lv_at hl 2 rfl) ?_
  refine lv_iadd hx hb dX11_isWordless_9 ?_
  obtain ⟨hi10, h⟩ := gv_of h
  refine al_M_14 X hP hi10 dX11_isWordless_10 ?_
  refine lv_topi (fun v1 ev1 => ?_)
  have h := lt_at ev1 h
  refine lv_istore_n (lv' := [(3, .int v1), (0, .ref (q 0)), (1, .int p0), (2, .int p1)]) hx hb dX11_isWordless_11 rfl hl (by decide) rfl (fun ls hl => ?_)
  refine lv_iload_n hx hb dX11_isWordless_12 rfl (lv_at hl 0 rfl) ?_
  refine lv_aload_n hx hb dX11_isWordless_13 rfl (lv_at hl 1 rfl) ?_
  refine gf_X11_173_M_0 X hP dX11_isWordless_14 ?_
  refine lv_iconst (v := 0) hx hb dX11_isWordless_17 rfl ?_
  obtain ⟨hi18, h⟩ := gv_of h
  refine al_M_6 X hP hi18 dX11_isWordless_18 ?_
  refine lv_icmp_gt (tgt := 51) hx hb dX11_isWordless_19 rfl (fun c19 => ?_) (fun c19 => ?_)
  · have h := br_p c19 h
    exact b51    _ _ _ h hP hS (lv_sub hl [] rfl)
  · have h := br_n c19 h
    refine lv_aload_n hx hb dX11_isWordless_22 rfl (lv_at hl 1 rfl) ?_
    refine gf_X11_208_M_0 X hP dX11_isWordless_23 ?_
    refine lv_bipush (v := 24) hx hb dX11_isWordless_26 rfl ?_
    refine lv_iload_n hx hb dX11_isWordless_28 rfl (lv_at hl 2 rfl) ?_
    refine lv_imul hx hb dX11_isWordless_29 ?_
    refine lv_iload_n hx hb dX11_isWordless_30 rfl (lv_at hl 3 rfl) ?_
    refine lv_iadd hx hb dX11_isWordless_31 ?_
    obtain ⟨hi32, h⟩ := gv_of h
    refine al_M_13 X hP hi32 dX11_isWordless_32 ?_
    refine lv_lconst (v := 1) hx hb dX11_isWordless_33 rfl ?_
    refine lv_aload_n hx hb dX11_isWordless_34 rfl (lv_at hl 1 rfl) ?_
    refine gf_X11_173_M_0 X hP dX11_isWordless_35 ?_
    refine lv_iconst (v := 0) hx hb dX11_isWordless_38 rfl ?_
    obtain ⟨hi39, h⟩ := gv_of h
    refine al_M_6 X hP hi39 dX11_isWordless_39 ?_
    refine lv_iload_n hx hb dX11_isWordless_40 rfl (lv_at hl 0 rfl) ?_
    refine lv_isub hx hb dX11_isWordless_41 ?_
    refine lv_lshl hx hb dX11_isWordless_42 rfl ?_
    refine jx1 h (P := fun (v2 : Bool) => ∀ ls : Array Slot, lv_has ls 4 [] → W p l e rm_X11_isWordless s m args below meth c H locs 0 0 Q (F0 m 52 ls [.int (bI v2)])) ?_ ?_
    · intro v2 h ls hl
      exact ret h hP hS dX11_isWordless_52
    · intro J h
      refine rl_ne (tgt := 51) hx hb dX11_isWordless_43 dX11_isWordless_44 rfl (fun c43 => ?_) (fun c43 => ?_)
      · refine lv_iconst (v := 0) hx hb dX11_isWordless_51 rfl ?_
        exact J _ (lt_in c43 h) ls (lv_sub hl [] rfl)
      · refine lv_iconst (v := 1) hx hb dX11_isWordless_47 rfl ?_
        refine lv_goto (tgt := 52) hx hb dX11_isWordless_48 rfl ?_
        exact J _ (lt_ip c43 h) ls (lv_sub hl [] rfl)
abbrev rm_X11_stage : Room := { frames := 2, cells := 0, slots := 0, locals := 46 }
set_option maxRecDepth 100000 in
set_option maxHeartbeats 4000000 in
theorem c_X11_stage {g : gT} {l : Launch} {A : Nat → Prop} {q : Nat → Nat} {m_thrown : Int32} {m_length : Int32} {m_at : Int32} {m_fault : Int32} {m_toldWords : Int32} {m_orders : Int32} {m_value : Int32} {m_hasUnit : Bool} {m_places : Int32} {m_clocks : Int32} {m_held : Bool} {m_x : Int64} {m_y : Int64} {m_z : Int64} {m_first : Int64} {m_second : Int64} {m_aside : Int32} {m_jobs : Int32} {m_jobsImage : Int32} {m_clocksImage : Int32} {m_heldImage : Bool} {m_hasImage : Bool} {m_tape : Nat → Int32} {m_read : Nat → Int32} {m_order : Nat → Int32} {m_width : Nat → Int32} {m_guard : Nat → Int32} {m_points : Nat → Int32} {m_stages : Nat → Int32} {m_gain : Nat → Int32} {m_undo : Nat → Int32} {m_near : Nat → Bool} {m_quarter : Nat → Int64} {m_ln : Nat → Int64} {m_angle : Nat → Int64} {m_shift : Nat → Int32} {m_digit : Nat → Int32} {m_refused : Nat → Int32} {m_job : Nat → Int32} {m_jobKept : Nat → Int32} {m_result : Nat → Int32} {m_resultKept : Nat → Int32} {m_trace : Nat → Int64} {m_traceKept : Nat → Int64} {m_jobImage : Nat → Int32} {m_resultImage : Nat → Int32} {m_traceImage : Nat → Int64} {p0 : Int32} {p1 : Int32} {p2 : Int32} {o : Int32 × Int32} (h : f_X11_stage p0 p1 p2 m_thrown m_hasUnit m_points m_stages m_angle m_shift = some o) : Std g l yX11_stage (.code yX11_stage cX11_stage 4 (some .int) :: gw) rm_X11_stage A [.ref (q 0), .int p0, .int p1, .int p2] (wM g q m_thrown m_length m_at m_fault m_toldWords m_orders m_value m_hasUnit m_places m_clocks m_held m_x m_y m_z m_first m_second m_aside m_jobs m_jobsImage m_clocksImage m_heldImage m_hasImage m_tape m_read m_order m_width m_guard m_points m_stages m_gain m_undo m_near m_quarter m_ln m_angle m_shift m_digit m_refused m_job m_jobKept m_result m_resultKept m_trace m_traceKept m_jobImage m_resultImage m_traceImage) (wM g q o.2 m_length m_at m_fault m_toldWords m_orders m_value m_hasUnit m_places m_clocks m_held m_x m_y m_z m_first m_second m_aside m_jobs m_jobsImage m_clocksImage m_heldImage m_hasImage m_tape m_read m_order m_width m_guard m_points m_stages m_gain m_undo m_near m_quarter m_ln m_angle m_shift m_digit m_refused m_job m_jobKept m_result m_resultKept m_trace m_traceKept m_jobImage m_resultImage m_traceImage) (some (.int o.1)) := by
  refine std_i (own := RX11) (by decide +kernel) rfl (Nat.le_of_ble_eq_true rfl) ?_
  intro p e s m args below meth c Q X ret H locs hP hS ls hl
  have hx := X.1
  have hb := X.2.1
  have hl : lv_has ls 4 [(0, .ref (q 0)), (1, .int p0), (2, .int p1), (3, .int p2)] := hl
  have ret : ∀ {H : Heap} {locs : List Loc} {pc : Nat} {ls : Array Slot} {v : Int32} {m_thrown : Int32}, some (v, m_thrown) = some o → WP g A (wM g q m_thrown m_length m_at m_fault m_toldWords m_orders m_value m_hasUnit m_places m_clocks m_held m_x m_y m_z m_first m_second m_aside m_jobs m_jobsImage m_clocksImage m_heldImage m_hasImage m_tape m_read m_order m_width m_guard m_points m_stages m_gain m_undo m_near m_quarter m_ln m_angle m_shift m_digit m_refused m_job m_jobKept m_result m_resultKept m_trace m_traceKept m_jobImage m_resultImage m_traceImage) H → va_S A s.heap H locs → decode cX11_stage pc = .ok (.ireturn, 1) → W p l e rm_X11_stage s m args below meth c H locs 0 0 Q (F0 m pc ls [.int v]) := by
    intro H locs pc ls v m_thrown h hP hS hd
    cases h
    exact ret hP hS hd
  have b43 : ∀ (m_thrown : Int32) (H : Heap) (locs : List Loc) (ls : Array Slot), f_X11_stage_b43  m_hasUnit m_points m_stages m_angle m_shift  m_thrown = some o → WP g A (wM g q m_thrown m_length m_at m_fault m_toldWords m_orders m_value m_hasUnit m_places m_clocks m_held m_x m_y m_z m_first m_second m_aside m_jobs m_jobsImage m_clocksImage m_heldImage m_hasImage m_tape m_read m_order m_width m_guard m_points m_stages m_gain m_undo m_near m_quarter m_ln m_angle m_shift m_digit m_refused m_job m_jobKept m_result m_resultKept m_trace m_traceKept m_jobImage m_resultImage m_traceImage) H → va_S A s.heap H locs → lv_has ls 4 [] → W p l e rm_X11_stage s m args below meth c H locs 0 0 Q (F0 m 43 ls []) := by
    intro  m_thrown H locs ls h hP hS hl
    unfold f_X11_stage_b43 at h
    refine lv_iconst (v := (-1)) hx hb dX11_stage_43 rfl ?_
    exact ret h hP hS dX11_stage_44
  unfold f_X11_stage at h
  refine lv_aload_n hx hb dX11_stage_0 rfl (lv_at hl 0 rfl) ?_
  refine lv_iconst (v := 0) hx hb dX11_stage_1 rfl ?_
  refine pf_X11_5_M_0 (v0 := (0 : Int32)) X hP hS dX11_stage_2 (fun H locs hP hS => ?_)
  refine lv_aload_n hx hb dX11_stage_5 rfl (lv_at hl 0 rfl) ?_
  refine lv_iload_n hx hb dX11_stage_6 rfl (lv_at hl 1 rfl) ?_
  obtain ⟨o1, hco1, h⟩ := bd_of h
  refine kV (rest := []) X dX11_stage_7 wd_6_147 mw_X11_isMode wd_6_149 wp_7_11 hP (k0 := 0) rfl rfl rfl hS (fun _ z => z) (c_X11_isMode hco1) rfl hl.1 rfl (Nat.le_of_ble_eq_true rfl) rfl rfl ⟨Nat.le_of_ble_eq_true rfl, Nat.le_of_ble_eq_true rfl⟩ (fun H locs hP _ _ hS => ?_)
  refine W.eq (g2 := F0 m 10 ls [.int (bI o1)]) rfl ?_
  refine rb_eq (tgt := 43) hx hb dX11_stage_10 rfl (fun c10 => ?_) (fun c10 => ?_)
  · have h := br_n c10 h
    exact b43   (0 : Int32) _ _ _ h hP hS (lv_sub hl [] rfl)
  · have h := br_p c10 h
    refine lv_iload_n hx hb dX11_stage_13 rfl (lv_at hl 2 rfl) ?_
    refine lv_i2l hx hb dX11_stage_14 rfl ?_
    refine lv_lconst (v := 0) hx hb dX11_stage_15 rfl ?_
    refine lv_aload_n hx hb dX11_stage_16 rfl (lv_at hl 0 rfl) ?_
    refine gf_X11_171_M_0 X hP dX11_stage_17 ?_
    refine lv_iconst (v := 0) hx hb dX11_stage_20 rfl ?_
    obtain ⟨hi21, h⟩ := gv_of h
    refine al_M_7 X hP hi21 dX11_stage_21 ?_
    refine lv_iconst (v := 1) hx hb dX11_stage_22 rfl ?_
    refine lv_isub hx hb dX11_stage_23 ?_
    refine lv_i2l hx hb dX11_stage_24 rfl ?_
    obtain ⟨o2, hco2, h⟩ := bd_of h
    refine kS (rest := []) X dX11_stage_25 wd_5_153 mw_X11_isIn wd_5_154 hP hS (fun _ z => z) (c_X11_isIn hco2) rfl hl.1 rfl (Nat.le_of_ble_eq_true rfl) rfl rfl ⟨Nat.le_of_ble_eq_true rfl, Nat.le_of_ble_eq_true rfl⟩ (fun H locs hP _ _ hS => ?_)
    refine W.eq (g2 := F0 m 28 ls [.int (bI o2)]) rfl ?_
    refine rb_eq (tgt := 43) hx hb dX11_stage_28 rfl (fun c28 => ?_) (fun c28 => ?_)
    · have h := br_n c28 h
      exact b43   (0 : Int32) _ _ _ h hP hS (lv_sub hl [] rfl)
    · have h := br_p c28 h
      refine lv_iload_n hx hb dX11_stage_31 rfl (lv_at hl 3 rfl) ?_
      refine lv_i2l hx hb dX11_stage_32 rfl ?_
      refine lv_lconst (v := 0) hx hb dX11_stage_33 rfl ?_
      refine lv_ldc2 (v := 2) hx hb X.2.2.2.1 (X.2.2.2.2.1 _ wd_5_201) dX11_stage_34 ?_
      obtain ⟨o3, hco3, h⟩ := bd_of h
      refine kS (rest := []) X dX11_stage_37 wd_5_153 mw_X11_isIn wd_5_154 hP hS (fun _ z => z) (c_X11_isIn hco3) rfl hl.1 rfl (Nat.le_of_ble_eq_true rfl) rfl rfl ⟨Nat.le_of_ble_eq_true rfl, Nat.le_of_ble_eq_true rfl⟩ (fun H locs hP _ _ hS => ?_)
      refine W.eq (g2 := F0 m 40 ls [.int (bI o3)]) rfl ?_
      refine rb_ne (tgt := 45) hx hb dX11_stage_40 rfl (fun c40 => ?_) (fun c40 => ?_)
      · have h := br_p c40 h
        refine lv_iload_n hx hb dX11_stage_45 rfl (lv_at hl 3 rfl) ?_
        refine lv_if_ne (tgt := 63) hx hb dX11_stage_46 rfl (fun c46 => ?_) (fun c46 => ?_)
        · have h := br_n c46 h
          refine lv_iload_n hx hb dX11_stage_63 rfl (lv_at hl 3 rfl) ?_
          refine lv_iconst (v := 1) hx hb dX11_stage_64 rfl ?_
          refine lv_icmp_ne (tgt := 83) hx hb dX11_stage_65 rfl (fun c65 => ?_) (fun c65 => ?_)
          · have h := br_n c65 h
            refine lv_aload_n hx hb dX11_stage_83 rfl (lv_at hl 0 rfl) ?_
            refine lv_iload_n hx hb dX11_stage_84 rfl (lv_at hl 1 rfl) ?_
            refine lv_iload_n hx hb dX11_stage_85 rfl (lv_at hl 2 rfl) ?_
            obtain ⟨o4, hco4, h⟩ := bd_of h
            refine kV (rest := []) X dX11_stage_86 wd_6_151 mw_X11_isWordless wd_6_153 wp_7_12 hP (k0 := 0) rfl rfl rfl hS (fun _ z => z) (c_X11_isWordless hco4) rfl hl.1 rfl (Nat.le_of_ble_eq_true rfl) rfl rfl ⟨Nat.le_of_ble_eq_true rfl, Nat.le_of_ble_eq_true rfl⟩ (fun H locs hP _ _ hS => ?_)
            refine W.eq (g2 := F0 m 89 ls [.int (bI o4)]) rfl ?_
            refine jx1 h (P := fun (v5 : Bool) => ∀ ls : Array Slot, lv_has ls 4 [] → W p l e rm_X11_stage s m args below meth c H locs 0 0 Q (F0 m 97 ls [.int (bI v5)])) ?_ ?_
            · intro v5 h ls hl
              exact ret h hP hS dX11_stage_97
            · intro J h
              refine rb_eq (tgt := 96) hx hb dX11_stage_89 rfl (fun c89 => ?_) (fun c89 => ?_)
              · refine lv_iconst (v := 0) hx hb dX11_stage_96 rfl ?_
                exact J _ (lt_in c89 h) ls (lv_sub hl [] rfl)
              · refine lv_iconst (v := 1) hx hb dX11_stage_92 rfl ?_
                refine lv_goto (tgt := 97) hx hb dX11_stage_93 rfl ?_
                exact J _ (lt_ip c89 h) ls (lv_sub hl [] rfl)
          · have h := br_p c65 h
            refine lv_aload_n hx hb dX11_stage_68 rfl (lv_at hl 0 rfl) ?_
            refine gf_X11_208_M_0 X hP dX11_stage_69 ?_
            refine lv_bipush (v := 24) hx hb dX11_stage_72 rfl ?_
            refine lv_iload_n hx hb dX11_stage_74 rfl (lv_at hl 1 rfl) ?_
            refine lv_imul hx hb dX11_stage_75 ?_
            refine lv_iload_n hx hb dX11_stage_76 rfl (lv_at hl 2 rfl) ?_
            refine lv_iadd hx hb dX11_stage_77 ?_
            obtain ⟨hi78, h⟩ := gv_of h
            refine al_M_13 X hP hi78 dX11_stage_78 ?_
            refine lv_l2i hx hb dX11_stage_79 rfl ?_
            refine lv_goto (tgt := 97) hx hb dX11_stage_80 rfl ?_
            exact ret h hP hS dX11_stage_97
        · have h := br_p c46 h
          refine lv_aload_n hx hb dX11_stage_49 rfl (lv_at hl 0 rfl) ?_
          refine gf_X11_154_M_0 X hP dX11_stage_50 ?_
          refine lv_bipush (v := 24) hx hb dX11_stage_53 rfl ?_
          refine lv_iload_n hx hb dX11_stage_55 rfl (lv_at hl 1 rfl) ?_
          refine lv_imul hx hb dX11_stage_56 ?_
          refine lv_iload_n hx hb dX11_stage_57 rfl (lv_at hl 2 rfl) ?_
          refine lv_iadd hx hb dX11_stage_58 ?_
          obtain ⟨hi59, h⟩ := gv_of h
          refine al_M_14 X hP hi59 dX11_stage_59 ?_
          refine lv_goto (tgt := 97) hx hb dX11_stage_60 rfl ?_
          exact ret h hP hS dX11_stage_97
      · have h := br_n c40 h
        exact b43   (0 : Int32) _ _ _ h hP hS (lv_sub hl [] rfl)
abbrev rm_X11_words : Room := { frames := 1, cells := 0, slots := 0, locals := 23 }
set_option maxRecDepth 100000 in
set_option maxHeartbeats 4000000 in
theorem c_X11_words {g : gT} {l : Launch} {A : Nat → Prop} {q : Nat → Nat} {m_thrown : Int32} {m_length : Int32} {m_at : Int32} {m_fault : Int32} {m_toldWords : Int32} {m_orders : Int32} {m_value : Int32} {m_hasUnit : Bool} {m_places : Int32} {m_clocks : Int32} {m_held : Bool} {m_x : Int64} {m_y : Int64} {m_z : Int64} {m_first : Int64} {m_second : Int64} {m_aside : Int32} {m_jobs : Int32} {m_jobsImage : Int32} {m_clocksImage : Int32} {m_heldImage : Bool} {m_hasImage : Bool} {m_tape : Nat → Int32} {m_read : Nat → Int32} {m_order : Nat → Int32} {m_width : Nat → Int32} {m_guard : Nat → Int32} {m_points : Nat → Int32} {m_stages : Nat → Int32} {m_gain : Nat → Int32} {m_undo : Nat → Int32} {m_near : Nat → Bool} {m_quarter : Nat → Int64} {m_ln : Nat → Int64} {m_angle : Nat → Int64} {m_shift : Nat → Int32} {m_digit : Nat → Int32} {m_refused : Nat → Int32} {m_job : Nat → Int32} {m_jobKept : Nat → Int32} {m_result : Nat → Int32} {m_resultKept : Nat → Int32} {m_trace : Nat → Int64} {m_traceKept : Nat → Int64} {m_jobImage : Nat → Int32} {m_resultImage : Nat → Int32} {m_traceImage : Nat → Int64} {p0 : Int32} {o : Int32} (h : f_X11_words p0 m_points m_stages m_angle m_shift = some o) : Std g l yX11_words (.code yX11_words cX11_words 6 (some .int) :: gw) rm_X11_words A [.ref (q 0), .int p0] (wM g q m_thrown m_length m_at m_fault m_toldWords m_orders m_value m_hasUnit m_places m_clocks m_held m_x m_y m_z m_first m_second m_aside m_jobs m_jobsImage m_clocksImage m_heldImage m_hasImage m_tape m_read m_order m_width m_guard m_points m_stages m_gain m_undo m_near m_quarter m_ln m_angle m_shift m_digit m_refused m_job m_jobKept m_result m_resultKept m_trace m_traceKept m_jobImage m_resultImage m_traceImage) (wM g q m_thrown m_length m_at m_fault m_toldWords m_orders m_value m_hasUnit m_places m_clocks m_held m_x m_y m_z m_first m_second m_aside m_jobs m_jobsImage m_clocksImage m_heldImage m_hasImage m_tape m_read m_order m_width m_guard m_points m_stages m_gain m_undo m_near m_quarter m_ln m_angle m_shift m_digit m_refused m_job m_jobKept m_result m_resultKept m_trace m_traceKept m_jobImage m_resultImage m_traceImage) (some (.int o)) := by
  refine std_i (own := RX11) (by decide +kernel) rfl (Nat.le_of_ble_eq_true rfl) ?_
  intro p e s m args below meth c Q X ret H locs hP hS ls hl
  have hx := X.1
  have hb := X.2.1
  have hl : lv_has ls 6 [(0, .ref (q 0)), (1, .int p0)] := hl
  have ret : ∀ {H : Heap} {locs : List Loc} {pc : Nat} {ls : Array Slot} {v : Int32} , some (v) = some o → WP g A (wM g q m_thrown m_length m_at m_fault m_toldWords m_orders m_value m_hasUnit m_places m_clocks m_held m_x m_y m_z m_first m_second m_aside m_jobs m_jobsImage m_clocksImage m_heldImage m_hasImage m_tape m_read m_order m_width m_guard m_points m_stages m_gain m_undo m_near m_quarter m_ln m_angle m_shift m_digit m_refused m_job m_jobKept m_result m_resultKept m_trace m_traceKept m_jobImage m_resultImage m_traceImage) H → va_S A s.heap H locs → decode cX11_words pc = .ok (.ireturn, 1) → W p l e rm_X11_words s m args below meth c H locs 0 0 Q (F0 m pc ls [.int v]) := by
    intro H locs pc ls v h hP hS hd
    cases h
    exact ret hP hS hd
  have b86 : ∀ (k4 : Int32 → Int32 → Int32 → Option (Int32)) (hk4 : ∀ (x1 : Int32) (x2 : Int32) (x3 : Int32) (H : Heap) (locs : List Loc) (ls : Array Slot), k4 x1 x2 x3 = some o → WP g A (wM g q m_thrown m_length m_at m_fault m_toldWords m_orders m_value m_hasUnit m_places m_clocks m_held m_x m_y m_z m_first m_second m_aside m_jobs m_jobsImage m_clocksImage m_heldImage m_hasImage m_tape m_read m_order m_width m_guard m_points m_stages m_gain m_undo m_near m_quarter m_ln m_angle m_shift m_digit m_refused m_job m_jobKept m_result m_resultKept m_trace m_traceKept m_jobImage m_resultImage m_traceImage) H → va_S A s.heap H locs → lv_has ls 6 [(0, .ref (q 0)), (1, .int x1), (2, .int x2), (3, .int x3)] → W p l e rm_X11_words s m args below meth c H locs 0 0 Q (F0 m 4 ls [])) (k33 : Int32 → Int32 → Int32 → Bool → Int32 → Option (Int32)) (hk33 : ∀ (x1 : Int32) (x2 : Int32) (x3 : Int32) (x4 : Bool) (x5 : Int32) (H : Heap) (locs : List Loc) (ls : Array Slot), k33 x1 x2 x3 x4 x5 = some o → WP g A (wM g q m_thrown m_length m_at m_fault m_toldWords m_orders m_value m_hasUnit m_places m_clocks m_held m_x m_y m_z m_first m_second m_aside m_jobs m_jobsImage m_clocksImage m_heldImage m_hasImage m_tape m_read m_order m_width m_guard m_points m_stages m_gain m_undo m_near m_quarter m_ln m_angle m_shift m_digit m_refused m_job m_jobKept m_result m_resultKept m_trace m_traceKept m_jobImage m_resultImage m_traceImage) H → va_S A s.heap H locs → lv_has ls 6 [(0, .ref (q 0)), (1, .int x1), (2, .int x2), (3, .int x3), (4, .int (bI x4)), (5, .int x5)] → W p l e rm_X11_words s m args below meth c H locs 0 0 Q (F0 m 33 ls [])) , ∀ (x1 : Int32) (x2 : Int32) (x3 : Int32) (x5 : Int32) (t0 : Bool) (H : Heap) (locs : List Loc) (ls : Array Slot), f_X11_words_b86  m_points m_stages m_angle m_shift k4 k33 x1 x2 x3 x5 t0 = some o → WP g A (wM g q m_thrown m_length m_at m_fault m_toldWords m_orders m_value m_hasUnit m_places m_clocks m_held m_x m_y m_z m_first m_second m_aside m_jobs m_jobsImage m_clocksImage m_heldImage m_hasImage m_tape m_read m_order m_width m_guard m_points m_stages m_gain m_undo m_near m_quarter m_ln m_angle m_shift m_digit m_refused m_job m_jobKept m_result m_resultKept m_trace m_traceKept m_jobImage m_resultImage m_traceImage) H → va_S A s.heap H locs → lv_has ls 6 [(0, .ref (q 0)), (1, .int x1), (2, .int x2), (3, .int x3), (5, .int x5)] → W p l e rm_X11_words s m args below meth c H locs 0 0 Q (F0 m 86 ls [.int (bI t0)]) := by
    intro k4 hk4 k33 hk33 x1 x2 x3 x5 t0 H locs ls h hP hS hl
    unfold f_X11_words_b86 at h
    refine lv_istore (lv' := [(4, .int (bI t0)), (0, .ref (q 0)), (1, .int x1), (2, .int x2), (3, .int x3), (5, .int x5)]) hx hb dX11_words_86 hl (by decide) rfl (fun ls hl => ?_)
    obtain ⟨v6, ev6⟩ : ∃ z : Int32, z = (x5 + 1) := ⟨_, rfl⟩
    have h := lt_at ev6 h
    refine lv_iinc (v := v6) (lv' := [(5, .int v6), (4, .int (bI t0)), (0, .ref (q 0)), (1, .int x1), (2, .int x2), (3, .int x3)]) hx hb dX11_words_88 hl (k := 5) rfl (by rw [ev6]; rfl) (by decide) rfl (fun ls hl => ?_)
    refine lv_goto (tgt := 33) hx hb dX11_words_91 rfl ?_
    exact hk33 x1 x2 x3 t0 v6 _ _ _ h hP hS (lv_sub hl [2, 3, 4, 5, 1, 0] rfl)
  have b85 : ∀ (k4 : Int32 → Int32 → Int32 → Option (Int32)) (hk4 : ∀ (x1 : Int32) (x2 : Int32) (x3 : Int32) (H : Heap) (locs : List Loc) (ls : Array Slot), k4 x1 x2 x3 = some o → WP g A (wM g q m_thrown m_length m_at m_fault m_toldWords m_orders m_value m_hasUnit m_places m_clocks m_held m_x m_y m_z m_first m_second m_aside m_jobs m_jobsImage m_clocksImage m_heldImage m_hasImage m_tape m_read m_order m_width m_guard m_points m_stages m_gain m_undo m_near m_quarter m_ln m_angle m_shift m_digit m_refused m_job m_jobKept m_result m_resultKept m_trace m_traceKept m_jobImage m_resultImage m_traceImage) H → va_S A s.heap H locs → lv_has ls 6 [(0, .ref (q 0)), (1, .int x1), (2, .int x2), (3, .int x3)] → W p l e rm_X11_words s m args below meth c H locs 0 0 Q (F0 m 4 ls [])) (k33 : Int32 → Int32 → Int32 → Bool → Int32 → Option (Int32)) (hk33 : ∀ (x1 : Int32) (x2 : Int32) (x3 : Int32) (x4 : Bool) (x5 : Int32) (H : Heap) (locs : List Loc) (ls : Array Slot), k33 x1 x2 x3 x4 x5 = some o → WP g A (wM g q m_thrown m_length m_at m_fault m_toldWords m_orders m_value m_hasUnit m_places m_clocks m_held m_x m_y m_z m_first m_second m_aside m_jobs m_jobsImage m_clocksImage m_heldImage m_hasImage m_tape m_read m_order m_width m_guard m_points m_stages m_gain m_undo m_near m_quarter m_ln m_angle m_shift m_digit m_refused m_job m_jobKept m_result m_resultKept m_trace m_traceKept m_jobImage m_resultImage m_traceImage) H → va_S A s.heap H locs → lv_has ls 6 [(0, .ref (q 0)), (1, .int x1), (2, .int x2), (3, .int x3), (4, .int (bI x4)), (5, .int x5)] → W p l e rm_X11_words s m args below meth c H locs 0 0 Q (F0 m 33 ls [])) , ∀ (x1 : Int32) (x2 : Int32) (x3 : Int32) (x5 : Int32) (H : Heap) (locs : List Loc) (ls : Array Slot), f_X11_words_b85  m_points m_stages m_angle m_shift k4 k33 x1 x2 x3 x5 = some o → WP g A (wM g q m_thrown m_length m_at m_fault m_toldWords m_orders m_value m_hasUnit m_places m_clocks m_held m_x m_y m_z m_first m_second m_aside m_jobs m_jobsImage m_clocksImage m_heldImage m_hasImage m_tape m_read m_order m_width m_guard m_points m_stages m_gain m_undo m_near m_quarter m_ln m_angle m_shift m_digit m_refused m_job m_jobKept m_result m_resultKept m_trace m_traceKept m_jobImage m_resultImage m_traceImage) H → va_S A s.heap H locs → lv_has ls 6 [(0, .ref (q 0)), (1, .int x1), (2, .int x2), (3, .int x3), (5, .int x5)] → W p l e rm_X11_words s m args below meth c H locs 0 0 Q (F0 m 85 ls []) := by
    intro k4 hk4 k33 hk33 x1 x2 x3 x5 H locs ls h hP hS hl
    unfold f_X11_words_b85 at h
    refine lv_iconst (v := 0) hx hb dX11_words_85 rfl ?_
    exact b86 k4 hk4 k33 hk33  x1 x2 x3 x5 false _ _ _ h hP hS (lv_sub hl [0, 1, 2, 3, 4] rfl)
  have b81 : ∀ (k4 : Int32 → Int32 → Int32 → Option (Int32)) (hk4 : ∀ (x1 : Int32) (x2 : Int32) (x3 : Int32) (H : Heap) (locs : List Loc) (ls : Array Slot), k4 x1 x2 x3 = some o → WP g A (wM g q m_thrown m_length m_at m_fault m_toldWords m_orders m_value m_hasUnit m_places m_clocks m_held m_x m_y m_z m_first m_second m_aside m_jobs m_jobsImage m_clocksImage m_heldImage m_hasImage m_tape m_read m_order m_width m_guard m_points m_stages m_gain m_undo m_near m_quarter m_ln m_angle m_shift m_digit m_refused m_job m_jobKept m_result m_resultKept m_trace m_traceKept m_jobImage m_resultImage m_traceImage) H → va_S A s.heap H locs → lv_has ls 6 [(0, .ref (q 0)), (1, .int x1), (2, .int x2), (3, .int x3)] → W p l e rm_X11_words s m args below meth c H locs 0 0 Q (F0 m 4 ls [])) (k33 : Int32 → Int32 → Int32 → Bool → Int32 → Option (Int32)) (hk33 : ∀ (x1 : Int32) (x2 : Int32) (x3 : Int32) (x4 : Bool) (x5 : Int32) (H : Heap) (locs : List Loc) (ls : Array Slot), k33 x1 x2 x3 x4 x5 = some o → WP g A (wM g q m_thrown m_length m_at m_fault m_toldWords m_orders m_value m_hasUnit m_places m_clocks m_held m_x m_y m_z m_first m_second m_aside m_jobs m_jobsImage m_clocksImage m_heldImage m_hasImage m_tape m_read m_order m_width m_guard m_points m_stages m_gain m_undo m_near m_quarter m_ln m_angle m_shift m_digit m_refused m_job m_jobKept m_result m_resultKept m_trace m_traceKept m_jobImage m_resultImage m_traceImage) H → va_S A s.heap H locs → lv_has ls 6 [(0, .ref (q 0)), (1, .int x1), (2, .int x2), (3, .int x3), (4, .int (bI x4)), (5, .int x5)] → W p l e rm_X11_words s m args below meth c H locs 0 0 Q (F0 m 33 ls [])) , ∀ (x1 : Int32) (x2 : Int32) (x3 : Int32) (x5 : Int32) (H : Heap) (locs : List Loc) (ls : Array Slot), f_X11_words_b81  m_points m_stages m_angle m_shift k4 k33 x1 x2 x3 x5 = some o → WP g A (wM g q m_thrown m_length m_at m_fault m_toldWords m_orders m_value m_hasUnit m_places m_clocks m_held m_x m_y m_z m_first m_second m_aside m_jobs m_jobsImage m_clocksImage m_heldImage m_hasImage m_tape m_read m_order m_width m_guard m_points m_stages m_gain m_undo m_near m_quarter m_ln m_angle m_shift m_digit m_refused m_job m_jobKept m_result m_resultKept m_trace m_traceKept m_jobImage m_resultImage m_traceImage) H → va_S A s.heap H locs → lv_has ls 6 [(0, .ref (q 0)), (1, .int x1), (2, .int x2), (3, .int x3), (5, .int x5)] → W p l e rm_X11_words s m args below meth c H locs 0 0 Q (F0 m 81 ls []) := by
    intro k4 hk4 k33 hk33 x1 x2 x3 x5 H locs ls h hP hS hl
    unfold f_X11_words_b81 at h
    refine lv_iconst (v := 1) hx hb dX11_words_81 rfl ?_
    refine lv_goto (tgt := 86) hx hb dX11_words_82 rfl ?_
    exact b86 k4 hk4 k33 hk33  x1 x2 x3 x5 true _ _ _ h hP hS (lv_sub hl [0, 1, 2, 3, 4] rfl)
  have l33 : ∀ (k4 : Int32 → Int32 → Int32 → Option (Int32)) (hk4 : ∀ (x1 : Int32) (x2 : Int32) (x3 : Int32) (H : Heap) (locs : List Loc) (ls : Array Slot), k4 x1 x2 x3 = some o → WP g A (wM g q m_thrown m_length m_at m_fault m_toldWords m_orders m_value m_hasUnit m_places m_clocks m_held m_x m_y m_z m_first m_second m_aside m_jobs m_jobsImage m_clocksImage m_heldImage m_hasImage m_tape m_read m_order m_width m_guard m_points m_stages m_gain m_undo m_near m_quarter m_ln m_angle m_shift m_digit m_refused m_job m_jobKept m_result m_resultKept m_trace m_traceKept m_jobImage m_resultImage m_traceImage) H → va_S A s.heap H locs → lv_has ls 6 [(0, .ref (q 0)), (1, .int x1), (2, .int x2), (3, .int x3)] → W p l e rm_X11_words s m args below meth c H locs 0 0 Q (F0 m 4 ls [])) (n : Nat), ∀ (x1 : Int32) (x2 : Int32) (x3 : Int32) (x4 : Bool) (x5 : Int32) (H : Heap) (locs : List Loc) (ls : Array Slot), f_X11_words_l33  m_points m_stages m_angle m_shift k4 n x1 x2 x3 x4 x5 = some o → WP g A (wM g q m_thrown m_length m_at m_fault m_toldWords m_orders m_value m_hasUnit m_places m_clocks m_held m_x m_y m_z m_first m_second m_aside m_jobs m_jobsImage m_clocksImage m_heldImage m_hasImage m_tape m_read m_order m_width m_guard m_points m_stages m_gain m_undo m_near m_quarter m_ln m_angle m_shift m_digit m_refused m_job m_jobKept m_result m_resultKept m_trace m_traceKept m_jobImage m_resultImage m_traceImage) H → va_S A s.heap H locs → lv_has ls 6 [(0, .ref (q 0)), (1, .int x1), (2, .int x2), (3, .int x3), (4, .int (bI x4)), (5, .int x5)] → W p l e rm_X11_words s m args below meth c H locs 0 0 Q (F0 m 33 ls []) := by
    intro k4 hk4 n
    induction n with
    | zero =>
      intro x1 x2 x3 x4 x5 H locs ls h
      exact nz_of h
    | succ n ih =>
      intro x1 x2 x3 x4 x5 H locs ls h hP hS hl
      rw [f_X11_words_l33] at h
      refine lv_iload hx hb dX11_words_33 (lv_at hl 5 rfl) ?_
      refine lv_iload_n hx hb dX11_words_35 rfl (lv_at hl 3 rfl) ?_
      refine lv_icmp_ge (tgt := 94) hx hb dX11_words_36 rfl (fun c36 => ?_) (fun c36 => ?_)
      · have h := br_p c36 h
        refine lv_iload_n hx hb dX11_words_94 rfl (lv_at hl 2 rfl) ?_
        refine lv_iload hx hb dX11_words_95 (lv_at hl 4 rfl) ?_
        refine jx1 h (P := fun (v3 : Bool) => ∀ ls : Array Slot, lv_has ls 6 [(0, .ref (q 0)), (1, .int x1), (3, .int x3)] → W p l e rm_X11_words s m args below meth c H locs 0 0 Q (F0 m 105 ls [.int (bI v3), .int x2])) ?_ ?_
        · intro v3 h ls hl
          refine lv_iadd hx hb dX11_words_105 ?_
          refine lv_topi (fun v4 ev4 => ?_)
          have h := lt_at ev4 h
          refine lv_istore_n (lv' := [(2, .int v4), (0, .ref (q 0)), (1, .int x1), (3, .int x3)]) hx hb dX11_words_106 rfl hl (by decide) rfl (fun ls hl => ?_)
          obtain ⟨v5, ev5⟩ : ∃ z : Int32, z = (x3 + 1) := ⟨_, rfl⟩
          have h := lt_at ev5 h
          refine lv_iinc (v := v5) (lv' := [(3, .int v5), (2, .int v4), (0, .ref (q 0)), (1, .int x1)]) hx hb dX11_words_107 hl (k := 3) rfl (by rw [ev5]; rfl) (by decide) rfl (fun ls hl => ?_)
          refine lv_goto (tgt := 4) hx hb dX11_words_110 rfl ?_
          exact hk4 x1 v4 v5 _ _ _ h hP hS (lv_sub hl [2, 3, 1, 0] rfl)
        · intro J h
          refine rb_eq (tgt := 104) hx hb dX11_words_97 rfl (fun c97 => ?_) (fun c97 => ?_)
          · refine lv_iconst (v := 0) hx hb dX11_words_104 rfl ?_
            exact J _ (lt_in c97 h) ls (lv_sub hl [0, 1, 3] rfl)
          · refine lv_iconst (v := 1) hx hb dX11_words_100 rfl ?_
            refine lv_goto (tgt := 105) hx hb dX11_words_101 rfl ?_
            exact J _ (lt_ip c97 h) ls (lv_sub hl [0, 1, 3] rfl)
      · have h := br_n c36 h
        refine lv_iload hx hb dX11_words_39 (lv_at hl 4 rfl) ?_
        refine rb_eq (tgt := 85) hx hb dX11_words_41 rfl (fun c41 => ?_) (fun c41 => ?_)
        · have h := br_n c41 h
          exact b85 k4 hk4 (f_X11_words_l33  m_points m_stages m_angle m_shift k4 n) ih  x1 x2 x3 x5 _ _ _ h hP hS (lv_sub hl [0, 1, 2, 3, 5] rfl)
        · have h := br_p c41 h
          refine lv_aload_n hx hb dX11_words_44 rfl (lv_at hl 0 rfl) ?_
          refine lv_iload_n hx hb dX11_words_45 rfl (lv_at hl 1 rfl) ?_
          refine lv_iload hx hb dX11_words_46 (lv_at hl 5 rfl) ?_
          obtain ⟨o7, hco7, h⟩ := bd_of h
          refine kV (rest := []) X dX11_words_48 wd_6_151 mw_X11_isWordless wd_6_153 wp_7_12 hP (k0 := 0) rfl rfl rfl hS (fun _ z => z) (c_X11_isWordless hco7) rfl hl.1 rfl (Nat.le_of_ble_eq_true rfl) rfl rfl ⟨Nat.le_of_ble_eq_true rfl, Nat.le_of_ble_eq_true rfl⟩ (fun H locs hP _ _ hS => ?_)
          refine W.eq (g2 := F0 m 51 ls [.int (bI o7)]) rfl ?_
          refine rb_ne (tgt := 81) hx hb dX11_words_51 rfl (fun c51 => ?_) (fun c51 => ?_)
          · have h := br_p c51 h
            exact b81 k4 hk4 (f_X11_words_l33  m_points m_stages m_angle m_shift k4 n) ih  x1 x2 x3 x5 _ _ _ h hP hS (lv_sub hl [0, 1, 2, 3, 5] rfl)
          · have h := br_n c51 h
            refine lv_aload_n hx hb dX11_words_54 rfl (lv_at hl 0 rfl) ?_
            refine gf_X11_208_M_0 X hP dX11_words_55 ?_
            refine lv_bipush (v := 24) hx hb dX11_words_58 rfl ?_
            refine lv_iload_n hx hb dX11_words_60 rfl (lv_at hl 1 rfl) ?_
            refine lv_imul hx hb dX11_words_61 ?_
            refine lv_iload hx hb dX11_words_62 (lv_at hl 5 rfl) ?_
            refine lv_iadd hx hb dX11_words_64 ?_
            obtain ⟨hi65, h⟩ := gv_of h
            refine al_M_13 X hP hi65 dX11_words_65 ?_
            refine lv_aload_n hx hb dX11_words_66 rfl (lv_at hl 0 rfl) ?_
            refine gf_X11_208_M_0 X hP dX11_words_67 ?_
            refine lv_bipush (v := 24) hx hb dX11_words_70 rfl ?_
            refine lv_iload_n hx hb dX11_words_72 rfl (lv_at hl 1 rfl) ?_
            refine lv_imul hx hb dX11_words_73 ?_
            refine lv_iload_n hx hb dX11_words_74 rfl (lv_at hl 3 rfl) ?_
            refine lv_iadd hx hb dX11_words_75 ?_
            obtain ⟨hi76, h⟩ := gv_of h
            refine al_M_13 X hP hi76 dX11_words_76 ?_
            refine jx1 h (P := fun (v8 : Bool) => ∀ ls : Array Slot, lv_has ls 6 [(0, .ref (q 0)), (1, .int x1), (2, .int x2), (3, .int x3), (5, .int x5)] → W p l e rm_X11_words s m args below meth c H locs 0 0 Q (F0 m 86 ls [.int (bI v8)])) ?_ ?_
            · intro v8 h ls hl
              refine lv_istore (lv' := [(4, .int (bI v8)), (0, .ref (q 0)), (1, .int x1), (2, .int x2), (3, .int x3), (5, .int x5)]) hx hb dX11_words_86 hl (by decide) rfl (fun ls hl => ?_)
              obtain ⟨v9, ev9⟩ : ∃ z : Int32, z = (x5 + 1) := ⟨_, rfl⟩
              have h := lt_at ev9 h
              refine lv_iinc (v := v9) (lv' := [(5, .int v9), (4, .int (bI v8)), (0, .ref (q 0)), (1, .int x1), (2, .int x2), (3, .int x3)]) hx hb dX11_words_88 hl (k := 5) rfl (by rw [ev9]; rfl) (by decide) rfl (fun ls hl => ?_)
              refine lv_goto (tgt := 33) hx hb dX11_words_91 rfl ?_
              exact ih x1 x2 x3 v8 v9 _ _ _ h hP hS (lv_sub hl [2, 3, 4, 5, 1, 0] rfl)
            · intro J h
              refine rl_eq (tgt := 85) hx hb dX11_words_77 dX11_words_78 rfl (fun c77 => ?_) (fun c77 => ?_)
              · refine lv_iconst (v := 0) hx hb dX11_words_85 rfl ?_
                exact J _ (lt_ip c77 h) ls (lv_sub hl [0, 1, 2, 3, 5] rfl)
              · refine lv_iconst (v := 1) hx hb dX11_words_81 rfl ?_
                refine lv_goto (tgt := 86) hx hb dX11_words_82 rfl ?_
                exact J _ (lt_in c77 h) ls (lv_sub hl [0, 1, 2, 3, 5] rfl)
  have l4 : ∀ (n : Nat), ∀ (x1 : Int32) (x2 : Int32) (x3 : Int32) (H : Heap) (locs : List Loc) (ls : Array Slot), f_X11_words_l4  m_points m_stages m_angle m_shift  n x1 x2 x3 = some o → WP g A (wM g q m_thrown m_length m_at m_fault m_toldWords m_orders m_value m_hasUnit m_places m_clocks m_held m_x m_y m_z m_first m_second m_aside m_jobs m_jobsImage m_clocksImage m_heldImage m_hasImage m_tape m_read m_order m_width m_guard m_points m_stages m_gain m_undo m_near m_quarter m_ln m_angle m_shift m_digit m_refused m_job m_jobKept m_result m_resultKept m_trace m_traceKept m_jobImage m_resultImage m_traceImage) H → va_S A s.heap H locs → lv_has ls 6 [(0, .ref (q 0)), (1, .int x1), (2, .int x2), (3, .int x3)] → W p l e rm_X11_words s m args below meth c H locs 0 0 Q (F0 m 4 ls []) := by
    intro  n
    induction n with
    | zero =>
      intro x1 x2 x3 H locs ls h
      exact nz_of h
    | succ n ih =>
      intro x1 x2 x3 H locs ls h hP hS hl
      rw [f_X11_words_l4] at h
      refine lv_iload_n hx hb dX11_words_4 rfl (lv_at hl 3 rfl) ?_
      refine lv_aload_n hx hb dX11_words_5 rfl (lv_at hl 0 rfl) ?_
      refine gf_X11_171_M_0 X hP dX11_words_6 ?_
      refine lv_iconst (v := 0) hx hb dX11_words_9 rfl ?_
      obtain ⟨hi10, h⟩ := gv_of h
      refine al_M_7 X hP hi10 dX11_words_10 ?_
      refine lv_icmp_ge (tgt := 113) hx hb dX11_words_11 rfl (fun c11 => ?_) (fun c11 => ?_)
      · have h := br_p c11 h
        refine lv_iload_n hx hb dX11_words_113 rfl (lv_at hl 2 rfl) ?_
        exact ret h hP hS dX11_words_114
      · have h := br_n c11 h
        refine lv_aload_n hx hb dX11_words_14 rfl (lv_at hl 0 rfl) ?_
        refine lv_iload_n hx hb dX11_words_15 rfl (lv_at hl 1 rfl) ?_
        refine lv_iload_n hx hb dX11_words_16 rfl (lv_at hl 3 rfl) ?_
        obtain ⟨o1, hco1, h⟩ := bd_of h
        refine kV (rest := []) X dX11_words_17 wd_6_151 mw_X11_isWordless wd_6_153 wp_7_12 hP (k0 := 0) rfl rfl rfl hS (fun _ z => z) (c_X11_isWordless hco1) rfl hl.1 rfl (Nat.le_of_ble_eq_true rfl) rfl rfl ⟨Nat.le_of_ble_eq_true rfl, Nat.le_of_ble_eq_true rfl⟩ (fun H locs hP _ _ hS => ?_)
        refine W.eq (g2 := F0 m 20 ls [.int (bI o1)]) rfl ?_
        refine jx1 h (P := fun (v2 : Bool) => ∀ ls : Array Slot, lv_has ls 6 [(0, .ref (q 0)), (1, .int x1), (2, .int x2), (3, .int x3)] → W p l e rm_X11_words s m args below meth c H locs 0 0 Q (F0 m 28 ls [.int (bI v2)])) ?_ ?_
        · intro v2 h ls hl
          refine lv_istore (lv' := [(4, .int (bI v2)), (0, .ref (q 0)), (1, .int x1), (2, .int x2), (3, .int x3)]) hx hb dX11_words_28 hl (by decide) rfl (fun ls hl => ?_)
          refine lv_iconst (v := 0) hx hb dX11_words_30 rfl ?_
          refine lv_istore (lv' := [(5, .int 0), (4, .int (bI v2)), (0, .ref (q 0)), (1, .int x1), (2, .int x2), (3, .int x3)]) hx hb dX11_words_31 hl (by decide) rfl (fun ls hl => ?_)
          exact l33 (f_X11_words_l4  m_points m_stages m_angle m_shift  n) ih FU x1 x2 x3 v2 (0 : Int32) _ _ _ h hP hS (lv_sub hl [2, 3, 4, 5, 1, 0] rfl)
        · intro J h
          refine rb_ne (tgt := 27) hx hb dX11_words_20 rfl (fun c20 => ?_) (fun c20 => ?_)
          · refine lv_iconst (v := 0) hx hb dX11_words_27 rfl ?_
            exact J _ (lt_ip c20 h) ls (lv_sub hl [0, 1, 2, 3] rfl)
          · refine lv_iconst (v := 1) hx hb dX11_words_23 rfl ?_
            refine lv_goto (tgt := 28) hx hb dX11_words_24 rfl ?_
            exact J _ (lt_in c20 h) ls (lv_sub hl [0, 1, 2, 3] rfl)
  unfold f_X11_words at h
  refine lv_iconst (v := 0) hx hb dX11_words_0 rfl ?_
  refine lv_istore_n (lv' := [(2, .int 0), (0, .ref (q 0)), (1, .int p0)]) hx hb dX11_words_1 rfl hl (by decide) rfl (fun ls hl => ?_)
  refine lv_iconst (v := 0) hx hb dX11_words_2 rfl ?_
  refine lv_istore_n (lv' := [(3, .int 0), (2, .int 0), (0, .ref (q 0)), (1, .int p0)]) hx hb dX11_words_3 rfl hl (by decide) rfl (fun ls hl => ?_)
  exact l4  FU p0 (0 : Int32) (0 : Int32) _ _ _ h hP hS (lv_sub hl [2, 3, 1, 0] rfl)
abbrev rm_X11_wordlessFrom : Room := { frames := 1, cells := 0, slots := 0, locals := 23 }
set_option maxRecDepth 100000 in
set_option maxHeartbeats 4000000 in
theorem c_X11_wordlessFrom {g : gT} {l : Launch} {A : Nat → Prop} {q : Nat → Nat} {m_thrown : Int32} {m_length : Int32} {m_at : Int32} {m_fault : Int32} {m_toldWords : Int32} {m_orders : Int32} {m_value : Int32} {m_hasUnit : Bool} {m_places : Int32} {m_clocks : Int32} {m_held : Bool} {m_x : Int64} {m_y : Int64} {m_z : Int64} {m_first : Int64} {m_second : Int64} {m_aside : Int32} {m_jobs : Int32} {m_jobsImage : Int32} {m_clocksImage : Int32} {m_heldImage : Bool} {m_hasImage : Bool} {m_tape : Nat → Int32} {m_read : Nat → Int32} {m_order : Nat → Int32} {m_width : Nat → Int32} {m_guard : Nat → Int32} {m_points : Nat → Int32} {m_stages : Nat → Int32} {m_gain : Nat → Int32} {m_undo : Nat → Int32} {m_near : Nat → Bool} {m_quarter : Nat → Int64} {m_ln : Nat → Int64} {m_angle : Nat → Int64} {m_shift : Nat → Int32} {m_digit : Nat → Int32} {m_refused : Nat → Int32} {m_job : Nat → Int32} {m_jobKept : Nat → Int32} {m_result : Nat → Int32} {m_resultKept : Nat → Int32} {m_trace : Nat → Int64} {m_traceKept : Nat → Int64} {m_jobImage : Nat → Int32} {m_resultImage : Nat → Int32} {m_traceImage : Nat → Int64} {p0 : Int32} {o : Int32} (h : f_X11_wordlessFrom p0 m_points m_stages m_angle m_shift = some o) : Std g l yX11_wordlessFrom (.code yX11_wordlessFrom cX11_wordlessFrom 3 (some .int) :: gw) rm_X11_wordlessFrom A [.ref (q 0), .int p0] (wM g q m_thrown m_length m_at m_fault m_toldWords m_orders m_value m_hasUnit m_places m_clocks m_held m_x m_y m_z m_first m_second m_aside m_jobs m_jobsImage m_clocksImage m_heldImage m_hasImage m_tape m_read m_order m_width m_guard m_points m_stages m_gain m_undo m_near m_quarter m_ln m_angle m_shift m_digit m_refused m_job m_jobKept m_result m_resultKept m_trace m_traceKept m_jobImage m_resultImage m_traceImage) (wM g q m_thrown m_length m_at m_fault m_toldWords m_orders m_value m_hasUnit m_places m_clocks m_held m_x m_y m_z m_first m_second m_aside m_jobs m_jobsImage m_clocksImage m_heldImage m_hasImage m_tape m_read m_order m_width m_guard m_points m_stages m_gain m_undo m_near m_quarter m_ln m_angle m_shift m_digit m_refused m_job m_jobKept m_result m_resultKept m_trace m_traceKept m_jobImage m_resultImage m_traceImage) (some (.int o)) := by
  refine std_i (own := RX11) (by decide +kernel) rfl (Nat.le_of_ble_eq_true rfl) ?_
  intro p e s m args below meth c Q X ret H locs hP hS ls hl
  have hx := X.1
  have hb := X.2.1
  have hl : lv_has ls 3 [(0, .ref (q 0)), (1, .int p0)] := hl
  have ret : ∀ {H : Heap} {locs : List Loc} {pc : Nat} {ls : Array Slot} {v : Int32} , some (v) = some o → WP g A (wM g q m_thrown m_length m_at m_fault m_toldWords m_orders m_value m_hasUnit m_places m_clocks m_held m_x m_y m_z m_first m_second m_aside m_jobs m_jobsImage m_clocksImage m_heldImage m_hasImage m_tape m_read m_order m_width m_guard m_points m_stages m_gain m_undo m_near m_quarter m_ln m_angle m_shift m_digit m_refused m_job m_jobKept m_result m_resultKept m_trace m_traceKept m_jobImage m_resultImage m_traceImage) H → va_S A s.heap H locs → decode cX11_wordlessFrom pc = .ok (.ireturn, 1) → W p l e rm_X11_wordlessFrom s m args below meth c H locs 0 0 Q (F0 m pc ls [.int v]) := by
    intro H locs pc ls v h hP hS hd
    cases h
    exact ret hP hS hd
  have b28 : ∀ (x2 : Int32) (H : Heap) (locs : List Loc) (ls : Array Slot), f_X11_wordlessFrom_b28  m_points m_stages m_angle m_shift  x2 = some o → WP g A (wM g q m_thrown m_length m_at m_fault m_toldWords m_orders m_value m_hasUnit m_places m_clocks m_held m_x m_y m_z m_first m_second m_aside m_jobs m_jobsImage m_clocksImage m_heldImage m_hasImage m_tape m_read m_order m_width m_guard m_points m_stages m_gain m_undo m_near m_quarter m_ln m_angle m_shift m_digit m_refused m_job m_jobKept m_result m_resultKept m_trace m_traceKept m_jobImage m_resultImage m_traceImage) H → va_S A s.heap H locs → lv_has ls 3 [(2, .int x2)] → W p l e rm_X11_wordlessFrom s m args below meth c H locs 0 0 Q (F0 m 28 ls []) := by
    intro  x2 H locs ls h hP hS hl
    unfold f_X11_wordlessFrom_b28 at h
    refine lv_iload_n hx hb dX11_wordlessFrom_28 rfl (lv_at hl 0 rfl) ?_
    exact ret h hP hS dX11_wordlessFrom_29
  have l7 : ∀ (n : Nat), ∀ (x1 : Int32) (x2 : Int32) (H : Heap) (locs : List Loc) (ls : Array Slot), f_X11_wordlessFrom_l7  m_points m_stages m_angle m_shift  n x1 x2 = some o → WP g A (wM g q m_thrown m_length m_at m_fault m_toldWords m_orders m_value m_hasUnit m_places m_clocks m_held m_x m_y m_z m_first m_second m_aside m_jobs m_jobsImage m_clocksImage m_heldImage m_hasImage m_tape m_read m_order m_width m_guard m_points m_stages m_gain m_undo m_near m_quarter m_ln m_angle m_shift m_digit m_refused m_job m_jobKept m_result m_resultKept m_trace m_traceKept m_jobImage m_resultImage m_traceImage) H → va_S A s.heap H locs → lv_has ls 3 [(0, .ref (q 0)), (1, .int x1), (2, .int x2)] → W p l e rm_X11_wordlessFrom s m args below meth c H locs 0 0 Q (F0 m 7 ls []) := by
    intro  n
    induction n with
    | zero =>
      intro x1 x2 H locs ls h
      exact nz_of h
    | succ n ih =>
      intro x1 x2 H locs ls h hP hS hl
      rw [f_X11_wordlessFrom_l7] at h
      refine lv_iload_n hx hb dX11_wordlessFrom_7 rfl (lv_at hl 2 rfl) ?_
      refine lv_if_le (tgt := 28) hx hb dX11_wordlessFrom_8 rfl (fun c8 => ?_) (fun c8 => ?_)
      · have h := br_p c8 h
        exact b28   x2 _ _ _ h hP hS (lv_sub hl [2] rfl)
      · have h := br_n c8 h
        refine lv_aload_n hx hb dX11_wordlessFrom_11 rfl (lv_at hl 0 rfl) ?_
        refine lv_iload_n hx hb dX11_wordlessFrom_12 rfl (lv_at hl 1 rfl) ?_
        refine lv_iload_n hx hb dX11_wordlessFrom_13 rfl (lv_at hl 2 rfl) ?_
        refine lv_iconst (v := 1) hx hb dX11_wordlessFrom_14 rfl ?_
        refine lv_isub hx hb dX11_wordlessFrom_15 ?_
        obtain ⟨o2, hco2, h⟩ := bd_of h
        refine kV (rest := []) X dX11_wordlessFrom_16 wd_6_151 mw_X11_isWordless wd_6_153 wp_7_12 hP (k0 := 0) rfl rfl rfl hS (fun _ z => z) (c_X11_isWordless hco2) rfl hl.1 rfl (Nat.le_of_ble_eq_true rfl) rfl rfl ⟨Nat.le_of_ble_eq_true rfl, Nat.le_of_ble_eq_true rfl⟩ (fun H locs hP _ _ hS => ?_)
        refine W.eq (g2 := F0 m 19 ls [.int (bI o2)]) rfl ?_
        refine rb_eq (tgt := 28) hx hb dX11_wordlessFrom_19 rfl (fun c19 => ?_) (fun c19 => ?_)
        · have h := br_n c19 h
          exact b28   x2 _ _ _ h hP hS (lv_sub hl [2] rfl)
        · have h := br_p c19 h
          obtain ⟨v3, ev3⟩ : ∃ z : Int32, z = (x2 + (-1)) := ⟨_, rfl⟩
          have h := lt_at ev3 h
          refine lv_iinc (v := v3) (lv' := [(2, .int v3), (0, .ref (q 0)), (1, .int x1)]) hx hb dX11_wordlessFrom_22 hl (k := 2) rfl (by rw [ev3]; rfl) (by decide) rfl (fun ls hl => ?_)
          refine lv_goto (tgt := 7) hx hb dX11_wordlessFrom_25 rfl ?_
          exact ih x1 v3 _ _ _ h hP hS (lv_sub hl [1, 2, 0] rfl)
  unfold f_X11_wordlessFrom at h
  refine lv_aload_n hx hb dX11_wordlessFrom_0 rfl (lv_at hl 0 rfl) ?_
  refine gf_X11_171_M_0 X hP dX11_wordlessFrom_1 ?_
  refine lv_iconst (v := 0) hx hb dX11_wordlessFrom_4 rfl ?_
  obtain ⟨hi5, h⟩ := gv_of h
  refine al_M_7 X hP hi5 dX11_wordlessFrom_5 ?_
  refine lv_topi (fun v1 ev1 => ?_)
  have h := lt_at ev1 h
  refine lv_istore_n (lv' := [(2, .int v1), (0, .ref (q 0)), (1, .int p0)]) hx hb dX11_wordlessFrom_6 rfl hl (by decide) rfl (fun ls hl => ?_)
  exact l7  FU p0 v1 _ _ _ h hP hS (lv_sub hl [1, 2, 0] rfl)
abbrev rm_X11_digitsIn : Room := { frames := 0, cells := 0, slots := 0, locals := 0 }
set_option maxRecDepth 100000 in
set_option maxHeartbeats 4000000 in
theorem c_X11_digitsIn {g : gT} {l : Launch} {A : Nat → Prop} {q : Nat → Nat} {m_thrown : Int32} {m_length : Int32} {m_at : Int32} {m_fault : Int32} {m_toldWords : Int32} {m_orders : Int32} {m_value : Int32} {m_hasUnit : Bool} {m_places : Int32} {m_clocks : Int32} {m_held : Bool} {m_x : Int64} {m_y : Int64} {m_z : Int64} {m_first : Int64} {m_second : Int64} {m_aside : Int32} {m_jobs : Int32} {m_jobsImage : Int32} {m_clocksImage : Int32} {m_heldImage : Bool} {m_hasImage : Bool} {m_tape : Nat → Int32} {m_read : Nat → Int32} {m_order : Nat → Int32} {m_width : Nat → Int32} {m_guard : Nat → Int32} {m_points : Nat → Int32} {m_stages : Nat → Int32} {m_gain : Nat → Int32} {m_undo : Nat → Int32} {m_near : Nat → Bool} {m_quarter : Nat → Int64} {m_ln : Nat → Int64} {m_angle : Nat → Int64} {m_shift : Nat → Int32} {m_digit : Nat → Int32} {m_refused : Nat → Int32} {m_job : Nat → Int32} {m_jobKept : Nat → Int32} {m_result : Nat → Int32} {m_resultKept : Nat → Int32} {m_trace : Nat → Int64} {m_traceKept : Nat → Int64} {m_jobImage : Nat → Int32} {m_resultImage : Nat → Int32} {m_traceImage : Nat → Int64} {p0 : Int32} {o : Int32} (h : f_X11_digitsIn p0 m_digit = some o) : Std g l yX11_digitsIn (.code yX11_digitsIn cX11_digitsIn 4 (some .int) :: gw) rm_X11_digitsIn A [.ref (q 0), .int p0] (wM g q m_thrown m_length m_at m_fault m_toldWords m_orders m_value m_hasUnit m_places m_clocks m_held m_x m_y m_z m_first m_second m_aside m_jobs m_jobsImage m_clocksImage m_heldImage m_hasImage m_tape m_read m_order m_width m_guard m_points m_stages m_gain m_undo m_near m_quarter m_ln m_angle m_shift m_digit m_refused m_job m_jobKept m_result m_resultKept m_trace m_traceKept m_jobImage m_resultImage m_traceImage) (wM g q m_thrown m_length m_at m_fault m_toldWords m_orders m_value m_hasUnit m_places m_clocks m_held m_x m_y m_z m_first m_second m_aside m_jobs m_jobsImage m_clocksImage m_heldImage m_hasImage m_tape m_read m_order m_width m_guard m_points m_stages m_gain m_undo m_near m_quarter m_ln m_angle m_shift m_digit m_refused m_job m_jobKept m_result m_resultKept m_trace m_traceKept m_jobImage m_resultImage m_traceImage) (some (.int o)) := by
  refine std_i (own := RX11) (by decide +kernel) rfl (Nat.le_of_ble_eq_true rfl) ?_
  intro p e s m args below meth c Q X ret H locs hP hS ls hl
  have hx := X.1
  have hb := X.2.1
  have hl : lv_has ls 4 [(0, .ref (q 0)), (1, .int p0)] := hl
  have ret : ∀ {H : Heap} {locs : List Loc} {pc : Nat} {ls : Array Slot} {v : Int32} , some (v) = some o → WP g A (wM g q m_thrown m_length m_at m_fault m_toldWords m_orders m_value m_hasUnit m_places m_clocks m_held m_x m_y m_z m_first m_second m_aside m_jobs m_jobsImage m_clocksImage m_heldImage m_hasImage m_tape m_read m_order m_width m_guard m_points m_stages m_gain m_undo m_near m_quarter m_ln m_angle m_shift m_digit m_refused m_job m_jobKept m_result m_resultKept m_trace m_traceKept m_jobImage m_resultImage m_traceImage) H → va_S A s.heap H locs → decode cX11_digitsIn pc = .ok (.ireturn, 1) → W p l e rm_X11_digitsIn s m args below meth c H locs 0 0 Q (F0 m pc ls [.int v]) := by
    intro H locs pc ls v h hP hS hd
    cases h
    exact ret hP hS hd
  have l4 : ∀ (n : Nat), ∀ (x1 : Int32) (x2 : Int32) (x3 : Int32) (H : Heap) (locs : List Loc) (ls : Array Slot), f_X11_digitsIn_l4  m_digit  n x1 x2 x3 = some o → WP g A (wM g q m_thrown m_length m_at m_fault m_toldWords m_orders m_value m_hasUnit m_places m_clocks m_held m_x m_y m_z m_first m_second m_aside m_jobs m_jobsImage m_clocksImage m_heldImage m_hasImage m_tape m_read m_order m_width m_guard m_points m_stages m_gain m_undo m_near m_quarter m_ln m_angle m_shift m_digit m_refused m_job m_jobKept m_result m_resultKept m_trace m_traceKept m_jobImage m_resultImage m_traceImage) H → va_S A s.heap H locs → lv_has ls 4 [(0, .ref (q 0)), (1, .int x1), (2, .int x2), (3, .int x3)] → W p l e rm_X11_digitsIn s m args below meth c H locs 0 0 Q (F0 m 4 ls []) := by
    intro  n
    induction n with
    | zero =>
      intro x1 x2 x3 H locs ls h
      exact nz_of h
    | succ n ih =>
      intro x1 x2 x3 H locs ls h hP hS hl
      rw [f_X11_digitsIn_l4] at h
      refine lv_iload_n hx hb dX11_digitsIn_4 rfl (lv_at hl 3 rfl) ?_
      refine lv_bipush (v := 32) hx hb dX11_digitsIn_5 rfl ?_
      refine lv_icmp_ge (tgt := 38) hx hb dX11_digitsIn_7 rfl (fun c7 => ?_) (fun c7 => ?_)
      · have h := br_p c7 h
        refine lv_iload_n hx hb dX11_digitsIn_38 rfl (lv_at hl 2 rfl) ?_
        exact ret h hP hS dX11_digitsIn_39
      · have h := br_n c7 h
        refine lv_iload_n hx hb dX11_digitsIn_10 rfl (lv_at hl 2 rfl) ?_
        refine lv_aload_n hx hb dX11_digitsIn_11 rfl (lv_at hl 0 rfl) ?_
        refine gf_X11_189_M_0 X hP dX11_digitsIn_12 ?_
        refine lv_bipush (v := 32) hx hb dX11_digitsIn_15 rfl ?_
        refine lv_iload_n hx hb dX11_digitsIn_17 rfl (lv_at hl 1 rfl) ?_
        refine lv_imul hx hb dX11_digitsIn_18 ?_
        refine lv_iload_n hx hb dX11_digitsIn_19 rfl (lv_at hl 3 rfl) ?_
        refine lv_iadd hx hb dX11_digitsIn_20 ?_
        obtain ⟨hi21, h⟩ := gv_of h
        refine al_M_15 X hP hi21 dX11_digitsIn_21 ?_
        refine jx1 h (P := fun (v1 : Bool) => ∀ ls : Array Slot, lv_has ls 4 [(0, .ref (q 0)), (1, .int x1), (3, .int x3)] → W p l e rm_X11_digitsIn s m args below meth c H locs 0 0 Q (F0 m 30 ls [.int (bI v1), .int x2])) ?_ ?_
        · intro v1 h ls hl
          refine lv_iadd hx hb dX11_digitsIn_30 ?_
          refine lv_topi (fun v2 ev2 => ?_)
          have h := lt_at ev2 h
          refine lv_istore_n (lv' := [(2, .int v2), (0, .ref (q 0)), (1, .int x1), (3, .int x3)]) hx hb dX11_digitsIn_31 rfl hl (by decide) rfl (fun ls hl => ?_)
          obtain ⟨v3, ev3⟩ : ∃ z : Int32, z = (x3 + 1) := ⟨_, rfl⟩
          have h := lt_at ev3 h
          refine lv_iinc (v := v3) (lv' := [(3, .int v3), (2, .int v2), (0, .ref (q 0)), (1, .int x1)]) hx hb dX11_digitsIn_32 hl (k := 3) rfl (by rw [ev3]; rfl) (by decide) rfl (fun ls hl => ?_)
          refine lv_goto (tgt := 4) hx hb dX11_digitsIn_35 rfl ?_
          exact ih x1 v2 v3 _ _ _ h hP hS (lv_sub hl [2, 3, 1, 0] rfl)
        · intro J h
          refine lv_if_ne (tgt := 29) hx hb dX11_digitsIn_22 rfl (fun c22 => ?_) (fun c22 => ?_)
          · refine lv_iconst (v := 1) hx hb dX11_digitsIn_29 rfl ?_
            exact J _ (lt_in c22 h) ls (lv_sub hl [0, 1, 3] rfl)
          · refine lv_iconst (v := 0) hx hb dX11_digitsIn_25 rfl ?_
            refine lv_goto (tgt := 30) hx hb dX11_digitsIn_26 rfl ?_
            exact J _ (lt_ip c22 h) ls (lv_sub hl [0, 1, 3] rfl)
  unfold f_X11_digitsIn at h
  refine lv_iconst (v := 0) hx hb dX11_digitsIn_0 rfl ?_
  refine lv_istore_n (lv' := [(2, .int 0), (0, .ref (q 0)), (1, .int p0)]) hx hb dX11_digitsIn_1 rfl hl (by decide) rfl (fun ls hl => ?_)
  refine lv_iconst (v := 0) hx hb dX11_digitsIn_2 rfl ?_
  refine lv_istore_n (lv' := [(3, .int 0), (2, .int 0), (0, .ref (q 0)), (1, .int p0)]) hx hb dX11_digitsIn_3 rfl hl (by decide) rfl (fun ls hl => ?_)
  exact l4  FU p0 (0 : Int32) (0 : Int32) _ _ _ h hP hS (lv_sub hl [2, 3, 1, 0] rfl)
