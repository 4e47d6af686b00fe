abbrev rm_X11_sweep : Room := { frames := 4, cells := 0, slots := 0, locals := 111 }
set_option maxRecDepth 100000 in
set_option maxHeartbeats 4000000 in
theorem c_X11_sweep {g : gT} {l : Launch} {A : Nat → Prop} {q : Nat → Nat} {m_thrown : Int32} {m_length : Int32} {m_at : Int32} {m_fault : Int32} {m_toldWords : Int32} {m_orders : Int32} {m_value : Int32} {m_hasUnit : Bool} {m_places : Int32} {m_clocks : Int32} {m_held : Bool} {m_x : Int64} {m_y : Int64} {m_z : Int64} {m_first : Int64} {m_second : Int64} {m_aside : Int32} {m_jobs : Int32} {m_jobsImage : Int32} {m_clocksImage : Int32} {m_heldImage : Bool} {m_hasImage : Bool} {m_tape : Nat → Int32} {m_read : Nat → Int32} {m_order : Nat → Int32} {m_width : Nat → Int32} {m_guard : Nat → Int32} {m_points : Nat → Int32} {m_stages : Nat → Int32} {m_gain : Nat → Int32} {m_undo : Nat → Int32} {m_near : Nat → Bool} {m_quarter : Nat → Int64} {m_ln : Nat → Int64} {m_angle : Nat → Int64} {m_shift : Nat → Int32} {m_digit : Nat → Int32} {m_refused : Nat → Int32} {m_job : Nat → Int32} {m_jobKept : Nat → Int32} {m_result : Nat → Int32} {m_resultKept : Nat → Int32} {m_trace : Nat → Int64} {m_traceKept : Nat → Int64} {m_jobImage : Nat → Int32} {m_resultImage : Nat → Int32} {m_traceImage : Nat → Int64} {p0 : Int32} {p1 : Int32} {p2 : Int32} {p3 : Int32} {p4 : Int32} {o : Int64 × Int32 × Int64 × Int64 × Int64 × Int64 × Int64 × Int32} (h : f_X11_sweep p0 p1 p2 p3 p4 m_thrown m_hasUnit m_x m_y m_z m_first m_second m_aside m_width m_guard m_points m_stages m_undo m_near m_quarter m_ln m_angle m_shift m_digit = some o) : Std g l yX11_sweep (.code yX11_sweep cX11_sweep 23 (some .long) :: gw) rm_X11_sweep A [.ref (q 0), .int p0, .int p1, .int p2, .int p3, .int p4] (wM g q m_thrown m_length m_at m_fault m_toldWords m_orders m_value m_hasUnit m_places m_clocks m_held m_x m_y m_z m_first m_second m_aside m_jobs m_jobsImage m_clocksImage m_heldImage m_hasImage m_tape m_read m_order m_width m_guard m_points m_stages m_gain m_undo m_near m_quarter m_ln m_angle m_shift m_digit m_refused m_job m_jobKept m_result m_resultKept m_trace m_traceKept m_jobImage m_resultImage m_traceImage) (wM g q o.2.1 m_length m_at m_fault m_toldWords m_orders m_value m_hasUnit m_places m_clocks m_held o.2.2.1 o.2.2.2.1 o.2.2.2.2.1 o.2.2.2.2.2.1 o.2.2.2.2.2.2.1 o.2.2.2.2.2.2.2 m_jobs m_jobsImage m_clocksImage m_heldImage m_hasImage m_tape m_read m_order m_width m_guard m_points m_stages m_gain m_undo m_near m_quarter m_ln m_angle m_shift m_digit m_refused m_job m_jobKept m_result m_resultKept m_trace m_traceKept m_jobImage m_resultImage m_traceImage) (some (.long o.1)) := by
  refine std_l (own := RX11) (by decide +kernel) rfl (Nat.le_of_ble_eq_true rfl) ?_
  intro p e s m args below meth c Q X ret H locs hP hS ls hl
  have hx := X.1
  have hb := X.2.1
  have hl : lv_has ls 23 [(0, .ref (q 0)), (1, .int p0), (2, .int p1), (3, .int p2), (4, .int p3), (5, .int p4)] := hl
  have ret : ∀ {H : Heap} {locs : List Loc} {pc : Nat} {ls : Array Slot} {v : Int64} {m_thrown : Int32} {m_x : Int64} {m_y : Int64} {m_z : Int64} {m_first : Int64} {m_second : Int64} {m_aside : Int32}, some (v, m_thrown, m_x, m_y, m_z, m_first, m_second, m_aside) = some o → WP g A (wM g q m_thrown m_length m_at m_fault m_toldWords m_orders m_value m_hasUnit m_places m_clocks m_held m_x m_y m_z m_first m_second m_aside m_jobs m_jobsImage m_clocksImage m_heldImage m_hasImage m_tape m_read m_order m_width m_guard m_points m_stages m_gain m_undo m_near m_quarter m_ln m_angle m_shift m_digit m_refused m_job m_jobKept m_result m_resultKept m_trace m_traceKept m_jobImage m_resultImage m_traceImage) H → va_S A s.heap H locs → decode cX11_sweep pc = .ok (.lreturn, 1) → W p l e rm_X11_sweep s m args below meth c H locs 0 0 Q (F0 m pc ls [.long v]) := by
    intro H locs pc ls v m_thrown m_x m_y m_z m_first m_second m_aside h hP hS hd
    cases h
    exact ret hP hS hd
  have b47 : ∀ (m_thrown : Int32) (m_x : Int64) (m_y : Int64) (m_z : Int64) (m_first : Int64) (m_second : Int64) (m_aside : Int32) (H : Heap) (locs : List Loc) (ls : Array Slot), f_X11_sweep_b47  m_hasUnit m_width m_guard m_points m_stages m_undo m_near m_quarter m_ln m_angle m_shift m_digit  m_thrown m_x m_y m_z m_first m_second m_aside = some o → WP g A (wM g q m_thrown m_length m_at m_fault m_toldWords m_orders m_value m_hasUnit m_places m_clocks m_held m_x m_y m_z m_first m_second m_aside m_jobs m_jobsImage m_clocksImage m_heldImage m_hasImage m_tape m_read m_order m_width m_guard m_points m_stages m_gain m_undo m_near m_quarter m_ln m_angle m_shift m_digit m_refused m_job m_jobKept m_result m_resultKept m_trace m_traceKept m_jobImage m_resultImage m_traceImage) H → va_S A s.heap H locs → lv_has ls 23 [] → W p l e rm_X11_sweep s m args below meth c H locs 0 0 Q (F0 m 47 ls []) := by
    intro  m_thrown m_x m_y m_z m_first m_second m_aside H locs ls h hP hS hl
    unfold f_X11_sweep_b47 at h
    refine lv_ldc2 (v := (-9223372036854775808)) hx hb X.2.2.2.1 (X.2.2.2.2.1 _ wd_7_28) dX11_sweep_47 ?_
    exact ret h hP hS dX11_sweep_50
  have b198 : ∀ (k84 : Int32 → Int32 → Int32 → Int32 → Int32 → Int32 → Int64 → Int64 → Int64 → Int32 → Int32 → Int32 → Int32 → Int64 → Int64 → Int64 → Int64 → Int64 → Int32 → Option (Int64 × Int32 × Int64 × Int64 × Int64 × Int64 × Int64 × Int32)) (hk84 : ∀ (x1 : Int32) (x2 : Int32) (x3 : Int32) (x4 : Int32) (x5 : Int32) (x6 : Int32) (x7 : Int64) (x9 : Int64) (x11 : Int64) (x13 : Int32) (x14 : Int32) (x15 : Int32) (m_thrown : Int32) (m_x : Int64) (m_y : Int64) (m_z : Int64) (m_first : Int64) (m_second : Int64) (m_aside : Int32) (H : Heap) (locs : List Loc) (ls : Array Slot), k84 x1 x2 x3 x4 x5 x6 x7 x9 x11 x13 x14 x15 m_thrown m_x m_y m_z m_first m_second m_aside = some o → WP g A (wM g q m_thrown m_length m_at m_fault m_toldWords m_orders m_value m_hasUnit m_places m_clocks m_held m_x m_y m_z m_first m_second m_aside m_jobs m_jobsImage m_clocksImage m_heldImage m_hasImage m_tape m_read m_order m_width m_guard m_points m_stages m_gain m_undo m_near m_quarter m_ln m_angle m_shift m_digit m_refused m_job m_jobKept m_result m_resultKept m_trace m_traceKept m_jobImage m_resultImage m_traceImage) H → va_S A s.heap H locs → lv_has ls 23 [(0, .ref (q 0)), (1, .int x1), (2, .int x2), (3, .int x3), (4, .int x4), (5, .int x5), (6, .int x6), (7, .long x7), (9, .long x9), (11, .long x11), (13, .int x13), (14, .int x14), (15, .int x15)] → W p l e rm_X11_sweep s m args below meth c H locs 0 0 Q (F0 m 84 ls [])) , ∀ (x1 : Int32) (x2 : Int32) (x3 : Int32) (x4 : Int32) (x5 : Int32) (x6 : Int32) (x7 : Int64) (x9 : Int64) (x11 : Int64) (x13 : Int32) (x14 : Int32) (x15 : Int32) (m_thrown : Int32) (m_x : Int64) (m_y : Int64) (m_z : Int64) (m_first : Int64) (m_second : Int64) (m_aside : Int32) (H : Heap) (locs : List Loc) (ls : Array Slot), f_X11_sweep_b198  m_hasUnit m_width m_guard m_points m_stages m_undo m_near m_quarter m_ln m_angle m_shift m_digit k84 x1 x2 x3 x4 x5 x6 x7 x9 x11 x13 x14 x15 m_thrown m_x m_y m_z m_first m_second m_aside = some o → WP g A (wM g q m_thrown m_length m_at m_fault m_toldWords m_orders m_value m_hasUnit m_places m_clocks m_held m_x m_y m_z m_first m_second m_aside m_jobs m_jobsImage m_clocksImage m_heldImage m_hasImage m_tape m_read m_order m_width m_guard m_points m_stages m_gain m_undo m_near m_quarter m_ln m_angle m_shift m_digit m_refused m_job m_jobKept m_result m_resultKept m_trace m_traceKept m_jobImage m_resultImage m_traceImage) H → va_S A s.heap H locs → lv_has ls 23 [(0, .ref (q 0)), (1, .int x1), (2, .int x2), (3, .int x3), (4, .int x4), (5, .int x5), (6, .int x6), (7, .long x7), (9, .long x9), (11, .long x11), (13, .int x13), (14, .int x14), (15, .int x15)] → W p l e rm_X11_sweep s m args below meth c H locs 0 0 Q (F0 m 198 ls []) := by
    intro k84 hk84 x1 x2 x3 x4 x5 x6 x7 x9 x11 x13 x14 x15 m_thrown m_x m_y m_z m_first m_second m_aside H locs ls h hP hS hl
    unfold f_X11_sweep_b198 at h
    obtain ⟨v16, ev16⟩ : ∃ z : Int32, z = (x15 + 1) := ⟨_, rfl⟩
    have h := lt_at ev16 h
    refine lv_iinc (v := v16) (lv' := [(15, .int v16), (0, .ref (q 0)), (1, .int x1), (2, .int x2), (3, .int x3), (4, .int x4), (5, .int x5), (6, .int x6), (7, .long x7), (9, .long x9), (11, .long x11), (13, .int x13), (14, .int x14)]) hx hb dX11_sweep_198 hl (k := 12) rfl (by rw [ev16]; rfl) (by decide) rfl (fun ls hl => ?_)
    refine lv_goto (tgt := 84) hx hb dX11_sweep_201 rfl ?_
    exact hk84 x1 x2 x3 x4 x5 x6 x7 x9 x11 x13 x14 v16 m_thrown m_x m_y m_z m_first m_second m_aside _ _ _ h hP hS (lv_sub hl [1, 2, 3, 4, 5, 6, 7, 8, 9, 10, 11, 12, 0] rfl)
  have l84 : ∀ (n : Nat), ∀ (x1 : Int32) (x2 : Int32) (x3 : Int32) (x4 : Int32) (x5 : Int32) (x6 : Int32) (x7 : Int64) (x9 : Int64) (x11 : Int64) (x13 : Int32) (x14 : Int32) (x15 : Int32) (m_thrown : Int32) (m_x : Int64) (m_y : Int64) (m_z : Int64) (m_first : Int64) (m_second : Int64) (m_aside : Int32) (H : Heap) (locs : List Loc) (ls : Array Slot), f_X11_sweep_l84  m_hasUnit m_width m_guard m_points m_stages m_undo m_near m_quarter m_ln m_angle m_shift m_digit  n x1 x2 x3 x4 x5 x6 x7 x9 x11 x13 x14 x15 m_thrown m_x m_y m_z m_first m_second m_aside = some o → WP g A (wM g q m_thrown m_length m_at m_fault m_toldWords m_orders m_value m_hasUnit m_places m_clocks m_held m_x m_y m_z m_first m_second m_aside m_jobs m_jobsImage m_clocksImage m_heldImage m_hasImage m_tape m_read m_order m_width m_guard m_points m_stages m_gain m_undo m_near m_quarter m_ln m_angle m_shift m_digit m_refused m_job m_jobKept m_result m_resultKept m_trace m_traceKept m_jobImage m_resultImage m_traceImage) H → va_S A s.heap H locs → lv_has ls 23 [(0, .ref (q 0)), (1, .int x1), (2, .int x2), (3, .int x3), (4, .int x4), (5, .int x5), (6, .int x6), (7, .long x7), (9, .long x9), (11, .long x11), (13, .int x13), (14, .int x14), (15, .int x15)] → W p l e rm_X11_sweep s m args below meth c H locs 0 0 Q (F0 m 84 ls []) := by
    intro  n
    induction n with
    | zero =>
      intro x1 x2 x3 x4 x5 x6 x7 x9 x11 x13 x14 x15 m_thrown m_x m_y m_z m_first m_second m_aside H locs ls h
      exact nz_of h
    | succ n ih =>
      intro x1 x2 x3 x4 x5 x6 x7 x9 x11 x13 x14 x15 m_thrown m_x m_y m_z m_first m_second m_aside H locs ls h hP hS hl
      rw [f_X11_sweep_l84] at h
      refine lv_iload hx hb dX11_sweep_84 (lv_at hl 12 rfl) ?_
      refine lv_iload hx hb dX11_sweep_86 (lv_at hl 4 rfl) ?_
      refine lv_icmp_ge (tgt := 204) hx hb dX11_sweep_88 rfl (fun c88 => ?_) (fun c88 => ?_)
      · have h := br_p c88 h
        refine lv_iload hx hb dX11_sweep_204 (lv_at hl 5 rfl) ?_
        refine lv_iconst (v := 1) hx hb dX11_sweep_206 rfl ?_
        refine lv_icmp_le (tgt := 226) hx hb dX11_sweep_207 rfl (fun c207 => ?_) (fun c207 => ?_)
        · have h := br_p c207 h
          refine lv_iload hx hb dX11_sweep_226 (lv_at hl 11 rfl) ?_
          refine lv_iload hx hb dX11_sweep_228 (lv_at hl 4 rfl) ?_
          refine jx1 h (P := fun (v6 : Int64) => ∀ ls : Array Slot, lv_has ls 23 [] → W p l e rm_X11_sweep s m args below meth c H locs 0 0 Q (F0 m 251 ls [.long v6])) ?_ ?_
          · intro v6 h ls hl
            exact ret h hP hS dX11_sweep_251
          · intro J h
            refine lv_icmp_ne (tgt := 239) hx hb dX11_sweep_230 rfl (fun c230 => ?_) (fun c230 => ?_)
            · refine lv_iload hx hb dX11_sweep_239 (lv_at hl 5 rfl) ?_
              refine lv_if_ne (tgt := 249) hx hb dX11_sweep_241 rfl (fun c241 => ?_) (fun c241 => ?_)
              · refine lv_lload hx hb dX11_sweep_249 (lv_at hl 8 rfl) ?_
                exact J _ (lt_in c241 (lt_in c230 h)) ls (lv_sub hl [] rfl)
              · refine lv_lload hx hb dX11_sweep_244 (lv_at hl 7 rfl) ?_
                refine lv_goto (tgt := 251) hx hb dX11_sweep_246 rfl ?_
                exact J _ (lt_ip c241 (lt_in c230 h)) ls (lv_sub hl [] rfl)
            · refine lv_ldc2 (v := (-9223372036854775808)) hx hb X.2.2.2.1 (X.2.2.2.2.1 _ wd_7_28) dX11_sweep_233 ?_
              refine lv_goto (tgt := 251) hx hb dX11_sweep_236 rfl ?_
              exact J _ (lt_ip c230 h) ls (lv_sub hl [] rfl)
        · have h := br_n c207 h
          refine lv_iload hx hb dX11_sweep_210 (lv_at hl 5 rfl) ?_
          refine lv_iconst (v := 2) hx hb dX11_sweep_212 rfl ?_
          refine jx1 h (P := fun (v7 : Int64) => ∀ ls : Array Slot, lv_has ls 23 [] → W p l e rm_X11_sweep s m args below meth c H locs 0 0 Q (F0 m 225 ls [.long v7])) ?_ ?_
          · intro v7 h ls hl
            exact ret h hP hS dX11_sweep_225
          · intro J h
            refine lv_icmp_ne (tgt := 222) hx hb dX11_sweep_213 rfl (fun c213 => ?_) (fun c213 => ?_)
            · refine lv_iload hx hb dX11_sweep_222 (lv_at hl 11 rfl) ?_
              refine lv_i2l hx hb dX11_sweep_224 rfl ?_
              exact J _ (lt_in c213 h) ls (lv_sub hl [] rfl)
            · refine lv_iload hx hb dX11_sweep_216 (lv_at hl 10 rfl) ?_
              refine lv_i2l hx hb dX11_sweep_218 rfl ?_
              refine lv_goto (tgt := 225) hx hb dX11_sweep_219 rfl ?_
              exact J _ (lt_ip c213 h) ls (lv_sub hl [] rfl)
      · have h := br_n c88 h
        refine lv_iload_n hx hb dX11_sweep_91 rfl (lv_at hl 2 rfl) ?_
        refine lv_i2l hx hb dX11_sweep_92 rfl ?_
        refine lv_iload_n hx hb dX11_sweep_93 rfl (lv_at hl 3 rfl) ?_
        refine lv_i2l hx hb dX11_sweep_94 rfl ?_
        refine lv_iload hx hb dX11_sweep_95 (lv_at hl 12 rfl) ?_
        refine lv_i2l hx hb dX11_sweep_97 rfl ?_
        refine lv_lmul hx hb dX11_sweep_98 ?_
        refine lv_ladd hx hb dX11_sweep_99 ?_
        refine lv_topl (fun v8 ev8 => ?_)
        have h := lt_at ev8 h
        refine lv_lstore (lv' := [(16, .long v8), (0, .ref (q 0)), (1, .int x1), (2, .int x2), (3, .int x3), (4, .int x4), (5, .int x5), (6, .int x6), (7, .long x7), (9, .long x9), (11, .long x11), (13, .int x13), (14, .int x14), (15, .int x15)]) hx hb dX11_sweep_100 hl (by decide) rfl (fun ls hl => ?_)
        refine lv_aload_n hx hb dX11_sweep_102 rfl (lv_at hl 1 rfl) ?_
        refine lv_iconst (v := 0) hx hb dX11_sweep_103 rfl ?_
        refine lv_iload_n hx hb dX11_sweep_104 rfl (lv_at hl 2 rfl) ?_
        refine lv_lload hx hb dX11_sweep_105 (lv_at hl 0 rfl) ?_
        refine lv_lconst (v := 0) hx hb dX11_sweep_107 rfl ?_
        refine lv_lconst (v := 0) hx hb dX11_sweep_108 rfl ?_
        obtain ⟨o9, hco9, h⟩ := bd_of h
        refine kV (rest := []) X dX11_sweep_109 wd_6_200 mw_X11_comes wd_6_202 wp_8_3 hP (k0 := 0) rfl rfl rfl hS (fun _ z => z) (c_X11_comes hco9) rfl hl.1 rfl (Nat.le_of_ble_eq_true rfl) rfl rfl ⟨Nat.le_of_ble_eq_true rfl, Nat.le_of_ble_eq_true rfl⟩ (fun H locs hP _ _ hS => ?_)
        refine W.eq (g2 := F0 m 112 ls [.int (bI o9.1)]) rfl ?_
        refine rb_ne (tgt := 121) hx hb dX11_sweep_112 rfl (fun c112 => ?_) (fun c112 => ?_)
        · have h := br_p c112 h
          refine lv_aload_n hx hb dX11_sweep_121 rfl (lv_at hl 1 rfl) ?_
          refine gf_X11_324_M_0 X hP dX11_sweep_122 ?_
          refine lv_lstore (lv' := [(18, .long o9.2.2.2.2.1), (16, .long v8), (0, .ref (q 0)), (1, .int x1), (2, .int x2), (3, .int x3), (4, .int x4), (5, .int x5), (6, .int x6), (7, .long x7), (9, .long x9), (11, .long x11), (13, .int x13), (14, .int x14), (15, .int x15)]) hx hb dX11_sweep_125 hl (by decide) rfl (fun ls hl => ?_)
          refine lv_iload hx hb dX11_sweep_127 (lv_at hl 12 rfl) ?_
          refine lv_lload hx hb dX11_sweep_129 (lv_at hl 0 rfl) ?_
          refine lv_lload hx hb dX11_sweep_131 (lv_at hl 11 rfl) ?_
          refine jx1 h (P := fun (v10 : Bool) => ∀ ls : Array Slot, lv_has ls 23 [(0, .ref (q 0)), (1, .int x1), (2, .int x2), (3, .int x3), (4, .int x4), (5, .int x5), (6, .int x6), (7, .long x7), (9, .long x9), (14, .int x14), (15, .int x15), (16, .long v8), (18, .long o9.2.2.2.2.1)] → W p l e rm_X11_sweep s m args below meth c H locs 0 0 Q (F0 m 142 ls [.int (bI v10), .int x13])) ?_ ?_
          · intro v10 h ls hl
            refine lv_iadd hx hb dX11_sweep_142 ?_
            refine lv_topi (fun v11 ev11 => ?_)
            have h := lt_at ev11 h
            refine lv_istore (lv' := [(13, .int v11), (0, .ref (q 0)), (1, .int x1), (2, .int x2), (3, .int x3), (4, .int x4), (5, .int x5), (6, .int x6), (7, .long x7), (9, .long x9), (14, .int x14), (15, .int x15), (16, .long v8), (18, .long o9.2.2.2.2.1)]) hx hb dX11_sweep_143 hl (by decide) rfl (fun ls hl => ?_)
            refine lv_lload hx hb dX11_sweep_145 (lv_at hl 13 rfl) ?_
            refine lv_lstore (lv' := [(11, .long o9.2.2.2.2.1), (13, .int v11), (0, .ref (q 0)), (1, .int x1), (2, .int x2), (3, .int x3), (4, .int x4), (5, .int x5), (6, .int x6), (7, .long x7), (9, .long x9), (14, .int x14), (15, .int x15), (16, .long v8), (18, .long o9.2.2.2.2.1)]) hx hb dX11_sweep_147 hl (by decide) rfl (fun ls hl => ?_)
            refine lv_aload_n hx hb dX11_sweep_149 rfl (lv_at hl 2 rfl) ?_
            refine lv_iconst (v := 1) hx hb dX11_sweep_150 rfl ?_
            refine lv_iload_n hx hb dX11_sweep_151 rfl (lv_at hl 3 rfl) ?_
            refine lv_lload hx hb dX11_sweep_152 (lv_at hl 13 rfl) ?_
            refine lv_iload hx hb dX11_sweep_154 (lv_at hl 8 rfl) ?_
            refine lv_lshl hx hb dX11_sweep_156 rfl ?_
            refine lv_lconst (v := 0) hx hb dX11_sweep_157 rfl ?_
            refine lv_lconst (v := 0) hx hb dX11_sweep_158 rfl ?_
            obtain ⟨o12, hco12, h⟩ := bd_of h
            refine kV (rest := []) X dX11_sweep_159 wd_6_200 mw_X11_comes wd_6_202 wp_8_3 hP (k0 := 0) rfl rfl rfl hS (fun _ z => z) (c_X11_comes hco12) rfl hl.1 rfl (Nat.le_of_ble_eq_true rfl) rfl rfl ⟨Nat.le_of_ble_eq_true rfl, Nat.le_of_ble_eq_true rfl⟩ (fun H locs hP _ _ hS => ?_)
            refine W.eq (g2 := F0 m 162 ls [.int (bI o12.1)]) rfl ?_
            refine lv_istore (lv' := [(20, .int (bI o12.1)), (11, .long o9.2.2.2.2.1), (13, .int v11), (0, .ref (q 0)), (1, .int x1), (2, .int x2), (3, .int x3), (4, .int x4), (5, .int x5), (6, .int x6), (7, .long x7), (9, .long x9), (14, .int x14), (15, .int x15), (16, .long v8), (18, .long o9.2.2.2.2.1)]) hx hb dX11_sweep_162 hl (by decide) rfl (fun ls hl => ?_)
            refine lv_lload hx hb dX11_sweep_164 (lv_at hl 15 rfl) ?_
            refine lv_iload hx hb dX11_sweep_166 (lv_at hl 9 rfl) ?_
            refine lv_lshl hx hb dX11_sweep_168 rfl ?_
            refine lv_aload_n hx hb dX11_sweep_169 rfl (lv_at hl 3 rfl) ?_
            refine gf_X11_324_M_0 X hP dX11_sweep_170 ?_
            refine lv_lsub hx hb dX11_sweep_173 ?_
            obtain ⟨o13, hco13, h⟩ := bd_of h
            refine kS (rest := []) X dX11_sweep_174 wd_6_211 mw_J9_abs_067f4 wd_3_171 hP hS (fun _ z => z) (c_J9_abs_067f4 hco13) rfl hl.1 rfl (Nat.le_of_ble_eq_true rfl) rfl rfl ⟨Nat.le_of_ble_eq_true rfl, Nat.le_of_ble_eq_true rfl⟩ (fun H locs hP _ _ hS => ?_)
            refine W.eq (g2 := F0 m 177 ls [.long o13]) rfl ?_
            refine lv_lstore (lv' := [(21, .long o13), (20, .int (bI o12.1)), (11, .long o9.2.2.2.2.1), (13, .int v11), (0, .ref (q 0)), (1, .int x1), (2, .int x2), (3, .int x3), (4, .int x4), (5, .int x5), (6, .int x6), (7, .long x7), (9, .long x9), (14, .int x14), (15, .int x15), (16, .long v8), (18, .long o9.2.2.2.2.1)]) hx hb dX11_sweep_177 hl (by decide) rfl (fun ls hl => ?_)
            refine lv_lload hx hb dX11_sweep_179 (lv_at hl 0 rfl) ?_
            refine lv_lload hx hb dX11_sweep_181 (lv_at hl 11 rfl) ?_
            refine jx2 h (P := fun (v14 : Int64) (v15 : Int64) => ∀ ls : Array Slot, lv_has ls 23 [(0, .ref (q 0)), (1, .int x1), (2, .int x2), (3, .int x3), (4, .int x4), (5, .int x5), (6, .int x6), (7, .long v14), (9, .long v15), (11, .long o9.2.2.2.2.1), (13, .int v11), (14, .int x14), (15, .int x15)] → W p l e rm_X11_sweep s m args below meth c H locs 0 0 Q (F0 m 198 ls [])) ?_ ?_
            · intro v14 v15 h ls hl
              exact b198 (f_X11_sweep_l84  m_hasUnit m_width m_guard m_points m_stages m_undo m_near m_quarter m_ln m_angle m_shift m_digit  n) ih  x1 x2 x3 x4 x5 x6 v14 v15 o9.2.2.2.2.1 v11 x14 x15 m_thrown o12.2.1 o12.2.2.1 o12.2.2.2.1 o12.2.2.2.2.1 o12.2.2.2.2.2.1 o12.2.2.2.2.2.2 _ _ _ h hP hS (lv_sub hl [0, 1, 2, 3, 4, 5, 6, 7, 8, 9, 10, 11, 12] rfl)
            · intro J h
              refine rl_gt (tgt := 190) hx hb dX11_sweep_183 dX11_sweep_184 rfl (fun c183 => ?_) (fun c183 => ?_)
              · refine lv_lload hx hb dX11_sweep_190 (lv_at hl 0 rfl) ?_
                refine lv_lstore (lv' := [(7, .long o13), (21, .long o13), (20, .int (bI o12.1)), (11, .long o9.2.2.2.2.1), (13, .int v11), (0, .ref (q 0)), (1, .int x1), (2, .int x2), (3, .int x3), (4, .int x4), (5, .int x5), (6, .int x6), (9, .long x9), (14, .int x14), (15, .int x15), (16, .long v8), (18, .long o9.2.2.2.2.1)]) hx hb dX11_sweep_192 hl (by decide) rfl (fun ls hl => ?_)
                refine lv_lload hx hb dX11_sweep_194 (lv_at hl 15 rfl) ?_
                refine lv_lstore (lv' := [(9, .long v8), (7, .long o13), (21, .long o13), (20, .int (bI o12.1)), (11, .long o9.2.2.2.2.1), (13, .int v11), (0, .ref (q 0)), (1, .int x1), (2, .int x2), (3, .int x3), (4, .int x4), (5, .int x5), (6, .int x6), (14, .int x14), (15, .int x15), (16, .long v8), (18, .long o9.2.2.2.2.1)]) hx hb dX11_sweep_196 hl (by decide) rfl (fun ls hl => ?_)
                exact J _ _ (lt2_ip c183 (lt_ip c183 h)) ls (lv_sub hl [6, 7, 8, 9, 10, 11, 12, 1, 0, 4, 5, 13, 14] rfl)
              · refine lv_goto (tgt := 198) hx hb dX11_sweep_187 rfl ?_
                exact J _ _ (lt2_in c183 (lt_in c183 h)) ls (lv_sub hl [4, 5, 6, 7, 8, 9, 10, 11, 12, 2, 3, 13, 14] rfl)
          · intro J h
            refine rl_ge (tgt := 141) hx hb dX11_sweep_133 dX11_sweep_134 rfl (fun c133 => ?_) (fun c133 => ?_)
            · refine lv_iconst (v := 0) hx hb dX11_sweep_141 rfl ?_
              exact J _ (lt_ip c133 h) ls (lv_sub hl [2, 3, 4, 5, 6, 7, 8, 9, 10, 13, 14, 1, 0] rfl)
            · refine lv_iconst (v := 1) hx hb dX11_sweep_137 rfl ?_
              refine lv_goto (tgt := 142) hx hb dX11_sweep_138 rfl ?_
              exact J _ (lt_in c133 h) ls (lv_sub hl [2, 3, 4, 5, 6, 7, 8, 9, 10, 13, 14, 1, 0] rfl)
        · have h := br_n c112 h
          obtain ⟨v17, ev17⟩ : ∃ z : Int32, z = (x14 + 1) := ⟨_, rfl⟩
          have h := lt_at ev17 h
          refine lv_iinc (v := v17) (lv' := [(14, .int v17), (16, .long v8), (0, .ref (q 0)), (1, .int x1), (2, .int x2), (3, .int x3), (4, .int x4), (5, .int x5), (6, .int x6), (7, .long x7), (9, .long x9), (11, .long x11), (13, .int x13), (15, .int x15)]) hx hb dX11_sweep_115 hl (k := 12) rfl (by rw [ev17]; rfl) (by decide) rfl (fun ls hl => ?_)
          refine lv_goto (tgt := 198) hx hb dX11_sweep_118 rfl ?_
          exact b198 (f_X11_sweep_l84  m_hasUnit m_width m_guard m_points m_stages m_undo m_near m_quarter m_ln m_angle m_shift m_digit  n) ih  x1 x2 x3 x4 x5 x6 x7 x9 x11 x13 v17 x15 m_thrown o9.2.1 o9.2.2.1 o9.2.2.2.1 o9.2.2.2.2.1 o9.2.2.2.2.2.1 o9.2.2.2.2.2.2 _ _ _ h hP hS (lv_sub hl [2, 3, 4, 5, 6, 7, 8, 9, 10, 11, 12, 0, 13] rfl)
  unfold f_X11_sweep at h
  refine lv_aload_n hx hb dX11_sweep_0 rfl (lv_at hl 0 rfl) ?_
  refine lv_iconst (v := 0) hx hb dX11_sweep_1 rfl ?_
  refine pf_X11_5_M_0 (v0 := (0 : Int32)) X hP hS dX11_sweep_2 (fun H locs hP hS => ?_)
  refine lv_aload_n hx hb dX11_sweep_5 rfl (lv_at hl 0 rfl) ?_
  refine lv_iload_n hx hb dX11_sweep_6 rfl (lv_at hl 1 rfl) ?_
  obtain ⟨o1, hco1, h⟩ := bd_of h
  refine kV (rest := []) X dX11_sweep_7 wd_6_195 mw_X11_isKind wd_6_197 wp_8_2 hP (k0 := 0) rfl rfl rfl hS (fun _ z => z) (c_X11_isKind hco1) rfl hl.1 rfl (Nat.le_of_ble_eq_true rfl) rfl rfl ⟨Nat.le_of_ble_eq_true rfl, Nat.le_of_ble_eq_true rfl⟩ (fun H locs hP _ _ hS => ?_)
  refine W.eq (g2 := F0 m 10 ls [.int (bI o1)]) rfl ?_
  refine rb_eq (tgt := 47) hx hb dX11_sweep_10 rfl (fun c10 => ?_) (fun c10 => ?_)
  · have h := br_n c10 h
    exact b47   (0 : Int32) m_x m_y m_z m_first m_second m_aside _ _ _ h hP hS (lv_sub hl [] rfl)
  · have h := br_p c10 h
    refine lv_iload_n hx hb dX11_sweep_13 rfl (lv_at hl 1 rfl) ?_
    obtain ⟨o2, hco2, h⟩ := bd_of h
    refine kS (rest := []) X dX11_sweep_14 wd_5_177 mw_X11_namesOf wd_5_178 hP hS (fun _ z => z) (c_X11_namesOf hco2) rfl hl.1 rfl (Nat.le_of_ble_eq_true rfl) rfl rfl ⟨Nat.le_of_ble_eq_true rfl, Nat.le_of_ble_eq_true rfl⟩ (fun H locs hP _ _ hS => ?_)
    refine W.eq (g2 := F0 m 17 ls [.int o2]) rfl ?_
    refine lv_iconst (v := 1) hx hb dX11_sweep_17 rfl ?_
    refine lv_icmp_ne (tgt := 47) hx hb dX11_sweep_18 rfl (fun c18 => ?_) (fun c18 => ?_)
    · have h := br_n c18 h
      exact b47   (0 : Int32) m_x m_y m_z m_first m_second m_aside _ _ _ h hP hS (lv_sub hl [] rfl)
    · have h := br_p c18 h
      refine lv_iload hx hb dX11_sweep_21 (lv_at hl 4 rfl) ?_
      refine lv_i2l hx hb dX11_sweep_23 rfl ?_
      refine lv_lconst (v := 1) hx hb dX11_sweep_24 rfl ?_
      refine lv_ldc2 (v := 200) hx hb X.2.2.2.1 (X.2.2.2.2.1 _ wd_7_27) dX11_sweep_25 ?_
      obtain ⟨o3, hco3, h⟩ := bd_of h
      refine kS (rest := []) X dX11_sweep_28 wd_5_153 mw_X11_isIn wd_5_154 hP hS (fun _ z => z) (c_X11_isIn hco3) rfl hl.1 rfl (Nat.le_of_ble_eq_true rfl) rfl rfl ⟨Nat.le_of_ble_eq_true rfl, Nat.le_of_ble_eq_true rfl⟩ (fun H locs hP _ _ hS => ?_)
      refine W.eq (g2 := F0 m 31 ls [.int (bI o3)]) rfl ?_
      refine rb_eq (tgt := 47) hx hb dX11_sweep_31 rfl (fun c31 => ?_) (fun c31 => ?_)
      · have h := br_n c31 h
        exact b47   (0 : Int32) m_x m_y m_z m_first m_second m_aside _ _ _ h hP hS (lv_sub hl [] rfl)
      · have h := br_p c31 h
        refine lv_iload hx hb dX11_sweep_34 (lv_at hl 5 rfl) ?_
        refine lv_i2l hx hb dX11_sweep_36 rfl ?_
        refine lv_lconst (v := 0) hx hb dX11_sweep_37 rfl ?_
        refine lv_ldc2 (v := 3) hx hb X.2.2.2.1 (X.2.2.2.2.1 _ wd_5_215) dX11_sweep_38 ?_
        obtain ⟨o4, hco4, h⟩ := bd_of h
        refine kS (rest := []) X dX11_sweep_41 wd_5_153 mw_X11_isIn wd_5_154 hP hS (fun _ z => z) (c_X11_isIn hco4) rfl hl.1 rfl (Nat.le_of_ble_eq_true rfl) rfl rfl ⟨Nat.le_of_ble_eq_true rfl, Nat.le_of_ble_eq_true rfl⟩ (fun H locs hP _ _ hS => ?_)
        refine W.eq (g2 := F0 m 44 ls [.int (bI o4)]) rfl ?_
        refine rb_ne (tgt := 51) hx hb dX11_sweep_44 rfl (fun c44 => ?_) (fun c44 => ?_)
        · have h := br_p c44 h
          refine lv_bipush (v := 22) hx hb dX11_sweep_51 rfl ?_
          refine lv_aload_n hx hb dX11_sweep_53 rfl (lv_at hl 0 rfl) ?_
          refine gf_X11_192_M_0 X hP dX11_sweep_54 ?_
          refine lv_iconst (v := 0) hx hb dX11_sweep_57 rfl ?_
          obtain ⟨hi58, h⟩ := gv_of h
          refine al_M_4 X hP hi58 dX11_sweep_58 ?_
          refine lv_isub hx hb dX11_sweep_59 ?_
          refine lv_topi (fun v5 ev5 => ?_)
          have h := lt_at ev5 h
          refine lv_istore (lv' := [(6, .int v5), (0, .ref (q 0)), (1, .int p0), (2, .int p1), (3, .int p2), (4, .int p3), (5, .int p4)]) hx hb dX11_sweep_60 hl (by decide) rfl (fun ls hl => ?_)
          refine lv_ldc2 (v := (-1)) hx hb X.2.2.2.1 (X.2.2.2.2.1 _ wd_7_5) dX11_sweep_62 ?_
          refine lv_lstore (lv' := [(7, .long (-1 : Int64)), (6, .int v5), (0, .ref (q 0)), (1, .int p0), (2, .int p1), (3, .int p2), (4, .int p3), (5, .int p4)]) hx hb dX11_sweep_65 hl (by decide) rfl (fun ls hl => ?_)
          refine lv_lconst (v := 0) hx hb dX11_sweep_67 rfl ?_
          refine lv_lstore (lv' := [(9, .long (0 : Int64)), (7, .long (-1 : Int64)), (6, .int v5), (0, .ref (q 0)), (1, .int p0), (2, .int p1), (3, .int p2), (4, .int p3), (5, .int p4)]) hx hb dX11_sweep_68 hl (by decide) rfl (fun ls hl => ?_)
          refine lv_ldc2 (v := (-9223372036854775808)) hx hb X.2.2.2.1 (X.2.2.2.2.1 _ wd_7_28) dX11_sweep_70 ?_
          refine lv_lstore (lv' := [(11, .long (-9223372036854775808 : Int64)), (9, .long (0 : Int64)), (7, .long (-1 : Int64)), (6, .int v5), (0, .ref (q 0)), (1, .int p0), (2, .int p1), (3, .int p2), (4, .int p3), (5, .int p4)]) hx hb dX11_sweep_73 hl (by decide) rfl (fun ls hl => ?_)
          refine lv_iconst (v := 0) hx hb dX11_sweep_75 rfl ?_
          refine lv_istore (lv' := [(13, .int 0), (11, .long (-9223372036854775808 : Int64)), (9, .long (0 : Int64)), (7, .long (-1 : Int64)), (6, .int v5), (0, .ref (q 0)), (1, .int p0), (2, .int p1), (3, .int p2), (4, .int p3), (5, .int p4)]) hx hb dX11_sweep_76 hl (by decide) rfl (fun ls hl => ?_)
          refine lv_iconst (v := 0) hx hb dX11_sweep_78 rfl ?_
          refine lv_istore (lv' := [(14, .int 0), (13, .int 0), (11, .long (-9223372036854775808 : Int64)), (9, .long (0 : Int64)), (7, .long (-1 : Int64)), (6, .int v5), (0, .ref (q 0)), (1, .int p0), (2, .int p1), (3, .int p2), (4, .int p3), (5, .int p4)]) hx hb dX11_sweep_79 hl (by decide) rfl (fun ls hl => ?_)
          refine lv_iconst (v := 0) hx hb dX11_sweep_81 rfl ?_
          refine lv_istore (lv' := [(15, .int 0), (14, .int 0), (13, .int 0), (11, .long (-9223372036854775808 : Int64)), (9, .long (0 : Int64)), (7, .long (-1 : Int64)), (6, .int v5), (0, .ref (q 0)), (1, .int p0), (2, .int p1), (3, .int p2), (4, .int p3), (5, .int p4)]) hx hb dX11_sweep_82 hl (by decide) rfl (fun ls hl => ?_)
          exact l84  FU p0 p1 p2 p3 p4 v5 (-1 : Int64) (0 : Int64) (-9223372036854775808 : Int64) (0 : Int32) (0 : Int32) (0 : Int32) (0 : Int32) m_x m_y m_z m_first m_second m_aside _ _ _ h hP hS (lv_sub hl [7, 8, 9, 10, 11, 12, 6, 5, 4, 3, 2, 1, 0] rfl)
        · have h := br_n c44 h
          exact b47   (0 : Int32) m_x m_y m_z m_first m_second m_aside _ _ _ h hP hS (lv_sub hl [] rfl)
abbrev rm_X11_offBy : Room := { frames := 0, cells := 0, slots := 0, locals := 0 }
set_option maxRecDepth 100000 in
set_option maxHeartbeats 4000000 in
theorem c_X11_offBy {g : gT} {l : Launch} {A : Nat → Prop} {q : Nat → Nat} {m_thrown : Int32} {m_length : Int32} {m_at : Int32} {m_fault : Int32} {m_toldWords : Int32} {m_orders : Int32} {m_value : Int32} {m_hasUnit : Bool} {m_places : Int32} {m_clocks : Int32} {m_held : Bool} {m_x : Int64} {m_y : Int64} {m_z : Int64} {m_first : Int64} {m_second : Int64} {m_aside : Int32} {m_jobs : Int32} {m_jobsImage : Int32} {m_clocksImage : Int32} {m_heldImage : Bool} {m_hasImage : Bool} {m_tape : Nat → Int32} {m_read : Nat → Int32} {m_order : Nat → Int32} {m_width : Nat → Int32} {m_guard : Nat → Int32} {m_points : Nat → Int32} {m_stages : Nat → Int32} {m_gain : Nat → Int32} {m_undo : Nat → Int32} {m_near : Nat → Bool} {m_quarter : Nat → Int64} {m_ln : Nat → Int64} {m_angle : Nat → Int64} {m_shift : Nat → Int32} {m_digit : Nat → Int32} {m_refused : Nat → Int32} {m_job : Nat → Int32} {m_jobKept : Nat → Int32} {m_result : Nat → Int32} {m_resultKept : Nat → Int32} {m_trace : Nat → Int64} {m_traceKept : Nat → Int64} {m_jobImage : Nat → Int32} {m_resultImage : Nat → Int32} {m_traceImage : Nat → Int64} {p0 : Int32} {p1 : Int32} {o : Int64} (h : f_X11_offBy p0 p1 m_guard m_angle = some o) : Std g l yX11_offBy (.code yX11_offBy cX11_offBy 8 (some .long) :: gw) rm_X11_offBy A [.ref (q 0), .int p0, .int p1] (wM g q m_thrown m_length m_at m_fault m_toldWords m_orders m_value m_hasUnit m_places m_clocks m_held m_x m_y m_z m_first m_second m_aside m_jobs m_jobsImage m_clocksImage m_heldImage m_hasImage m_tape m_read m_order m_width m_guard m_points m_stages m_gain m_undo m_near m_quarter m_ln m_angle m_shift m_digit m_refused m_job m_jobKept m_result m_resultKept m_trace m_traceKept m_jobImage m_resultImage m_traceImage) (wM g q m_thrown m_length m_at m_fault m_toldWords m_orders m_value m_hasUnit m_places m_clocks m_held m_x m_y m_z m_first m_second m_aside m_jobs m_jobsImage m_clocksImage m_heldImage m_hasImage m_tape m_read m_order m_width m_guard m_points m_stages m_gain m_undo m_near m_quarter m_ln m_angle m_shift m_digit m_refused m_job m_jobKept m_result m_resultKept m_trace m_traceKept m_jobImage m_resultImage m_traceImage) (some (.long o)) := by
  refine std_l (own := RX11) (by decide +kernel) rfl (Nat.le_of_ble_eq_true rfl) ?_
  intro p e s m args below meth c Q X ret H locs hP hS ls hl
  have hx := X.1
  have hb := X.2.1
  have hl : lv_has ls 8 [(0, .ref (q 0)), (1, .int p0), (2, .int p1)] := hl
  have ret : ∀ {H : Heap} {locs : List Loc} {pc : Nat} {ls : Array Slot} {v : Int64} , some (v) = some o → WP g A (wM g q m_thrown m_length m_at m_fault m_toldWords m_orders m_value m_hasUnit m_places m_clocks m_held m_x m_y m_z m_first m_second m_aside m_jobs m_jobsImage m_clocksImage m_heldImage m_hasImage m_tape m_read m_order m_width m_guard m_points m_stages m_gain m_undo m_near m_quarter m_ln m_angle m_shift m_digit m_refused m_job m_jobKept m_result m_resultKept m_trace m_traceKept m_jobImage m_resultImage m_traceImage) H → va_S A s.heap H locs → decode cX11_offBy pc = .ok (.lreturn, 1) → W p l e rm_X11_offBy s m args below meth c H locs 0 0 Q (F0 m pc ls [.long v]) := by
    intro H locs pc ls v h hP hS hd
    cases h
    exact ret hP hS hd
  unfold f_X11_offBy at h
  refine sgO X hS (sfX X).2.2.2.2.1 wd_7_0 dX11_offBy_0 ?_
  refine lv_iload_n hx hb dX11_offBy_3 rfl (lv_at hl 1 rfl) ?_
  obtain ⟨hi4, h⟩ := gv_of h
  refine sti X hS (sfX X).2.2.2.2.2.2.2.2.2.2.2.1 hi4 dX11_offBy_4 ?_
  refine W.eq (g2 := F0 m 5 ls [.int (mdOf (p0).toNatClampNeg)]) rfl ?_
  refine lv_topi (fun v1 ev1 => ?_)
  have h := lt_at ev1 h
  refine lv_istore_n (lv' := [(3, .int v1), (0, .ref (q 0)), (1, .int p0), (2, .int p1)]) hx hb dX11_offBy_5 rfl hl (by decide) rfl (fun ls hl => ?_)
  refine lv_aload_n hx hb dX11_offBy_6 rfl (lv_at hl 1 rfl) ?_
  refine gf_X11_208_M_0 X hP dX11_offBy_7 ?_
  refine lv_bipush (v := 24) hx hb dX11_offBy_10 rfl ?_
  refine lv_iload_n hx hb dX11_offBy_12 rfl (lv_at hl 0 rfl) ?_
  refine lv_imul hx hb dX11_offBy_13 ?_
  refine lv_iload_n hx hb dX11_offBy_14 rfl (lv_at hl 3 rfl) ?_
  refine lv_iadd hx hb dX11_offBy_15 ?_
  refine lv_iconst (v := 1) hx hb dX11_offBy_16 rfl ?_
  refine lv_isub hx hb dX11_offBy_17 ?_
  obtain ⟨hi18, h⟩ := gv_of h
  refine al_M_13 X hP hi18 dX11_offBy_18 ?_
  refine lv_topl (fun v2 ev2 => ?_)
  have h := lt_at ev2 h
  refine lv_lstore (lv' := [(4, .long v2), (3, .int v1), (0, .ref (q 0)), (1, .int p0), (2, .int p1)]) hx hb dX11_offBy_19 hl (by decide) rfl (fun ls hl => ?_)
  refine lv_iload_n hx hb dX11_offBy_21 rfl (lv_at hl 3 rfl) ?_
  refine jx1 h (P := fun (v3 : Int64) => ∀ ls : Array Slot, lv_has ls 8 [(0, .ref (q 0))] → W p l e rm_X11_offBy s m args below meth c H locs 0 0 Q (F0 m 55 ls [.long v3])) ?_ ?_
  · intro v3 h ls hl
    refine lv_lstore (lv' := [(6, .long v3), (0, .ref (q 0))]) hx hb dX11_offBy_55 hl (by decide) rfl (fun ls hl => ?_)
    refine lv_lload hx hb dX11_offBy_57 (lv_at hl 0 rfl) ?_
    refine lv_aload_n hx hb dX11_offBy_59 rfl (lv_at hl 1 rfl) ?_
    refine gf_X11_194_M_0 X hP dX11_offBy_60 ?_
    refine lv_iconst (v := 0) hx hb dX11_offBy_63 rfl ?_
    obtain ⟨hi64, h⟩ := gv_of h
    refine al_M_5 X hP hi64 dX11_offBy_64 ?_
    refine lv_lshr hx hb dX11_offBy_65 rfl ?_
    refine lv_ldc2 (v := 2) hx hb X.2.2.2.1 (X.2.2.2.2.1 _ wd_5_201) dX11_offBy_66 ?_
    refine lv_ladd hx hb dX11_offBy_69 ?_
    exact ret h hP hS dX11_offBy_70
  · intro J h
    refine lv_if_ne (tgt := 39) hx hb dX11_offBy_22 rfl (fun c22 => ?_) (fun c22 => ?_)
    · refine lv_ldc2 (v := 2) hx hb X.2.2.2.1 (X.2.2.2.2.1 _ wd_5_201) dX11_offBy_39 ?_
      refine lv_lload hx hb dX11_offBy_42 (lv_at hl 0 rfl) ?_
      refine lv_lmul hx hb dX11_offBy_44 ?_
      refine lv_bipush (v := 8) hx hb dX11_offBy_45 rfl ?_
      refine lv_iload_n hx hb dX11_offBy_47 rfl (lv_at hl 4 rfl) ?_
      refine lv_imul hx hb dX11_offBy_48 ?_
      refine lv_i2l hx hb dX11_offBy_49 rfl ?_
      refine lv_ladd hx hb dX11_offBy_50 ?_
      refine lv_ldc2 (v := 32) hx hb X.2.2.2.1 (X.2.2.2.2.1 _ wd_7_41) dX11_offBy_51 ?_
      refine lv_ladd hx hb dX11_offBy_54 ?_
      exact J _ (lt_in c22 h) ls (lv_sub hl [2] rfl)
    · refine lv_lload hx hb dX11_offBy_25 (lv_at hl 0 rfl) ?_
      refine lv_iconst (v := 4) hx hb dX11_offBy_27 rfl ?_
      refine lv_iload_n hx hb dX11_offBy_28 rfl (lv_at hl 4 rfl) ?_
      refine lv_imul hx hb dX11_offBy_29 ?_
      refine lv_i2l hx hb dX11_offBy_30 rfl ?_
      refine lv_ladd hx hb dX11_offBy_31 ?_
      refine lv_ldc2 (v := 32) hx hb X.2.2.2.1 (X.2.2.2.2.1 _ wd_7_41) dX11_offBy_32 ?_
      refine lv_ladd hx hb dX11_offBy_35 ?_
      refine lv_goto (tgt := 55) hx hb dX11_offBy_36 rfl ?_
      exact J _ (lt_ip c22 h) ls (lv_sub hl [2] rfl)
abbrev rm_X11_hasOff : Room := { frames := 0, cells := 0, slots := 0, locals := 0 }
set_option maxRecDepth 100000 in
set_option maxHeartbeats 4000000 in
theorem c_X11_hasOff {g : gT} {l : Launch} {A : Nat → Prop} {q : Nat → Nat} {m_thrown : Int32} {m_length : Int32} {m_at : Int32} {m_fault : Int32} {m_toldWords : Int32} {m_orders : Int32} {m_value : Int32} {m_hasUnit : Bool} {m_places : Int32} {m_clocks : Int32} {m_held : Bool} {m_x : Int64} {m_y : Int64} {m_z : Int64} {m_first : Int64} {m_second : Int64} {m_aside : Int32} {m_jobs : Int32} {m_jobsImage : Int32} {m_clocksImage : Int32} {m_heldImage : Bool} {m_hasImage : Bool} {m_tape : Nat → Int32} {m_read : Nat → Int32} {m_order : Nat → Int32} {m_width : Nat → Int32} {m_guard : Nat → Int32} {m_points : Nat → Int32} {m_stages : Nat → Int32} {m_gain : Nat → Int32} {m_undo : Nat → Int32} {m_near : Nat → Bool} {m_quarter : Nat → Int64} {m_ln : Nat → Int64} {m_angle : Nat → Int64} {m_shift : Nat → Int32} {m_digit : Nat → Int32} {m_refused : Nat → Int32} {m_job : Nat → Int32} {m_jobKept : Nat → Int32} {m_result : Nat → Int32} {m_resultKept : Nat → Int32} {m_trace : Nat → Int64} {m_traceKept : Nat → Int64} {m_jobImage : Nat → Int32} {m_resultImage : Nat → Int32} {m_traceImage : Nat → Int64} {p0 : Int32} {o : Bool} (h : f_X11_hasOff p0 m_hasUnit = some o) : Std g l yX11_hasOff (.code yX11_hasOff cX11_hasOff 2 (some .boolean) :: gw) rm_X11_hasOff A [.ref (q 0), .int p0] (wM g q m_thrown m_length m_at m_fault m_toldWords m_orders m_value m_hasUnit m_places m_clocks m_held m_x m_y m_z m_first m_second m_aside m_jobs m_jobsImage m_clocksImage m_heldImage m_hasImage m_tape m_read m_order m_width m_guard m_points m_stages m_gain m_undo m_near m_quarter m_ln m_angle m_shift m_digit m_refused m_job m_jobKept m_result m_resultKept m_trace m_traceKept m_jobImage m_resultImage m_traceImage) (wM g q m_thrown m_length m_at m_fault m_toldWords m_orders m_value m_hasUnit m_places m_clocks m_held m_x m_y m_z m_first m_second m_aside m_jobs m_jobsImage m_clocksImage m_heldImage m_hasImage m_tape m_read m_order m_width m_guard m_points m_stages m_gain m_undo m_near m_quarter m_ln m_angle m_shift m_digit m_refused m_job m_jobKept m_result m_resultKept m_trace m_traceKept m_jobImage m_resultImage m_traceImage) (some (.int (bI o))) := by
  refine std_z (own := RX11) (by decide +kernel) rfl (Nat.le_of_ble_eq_true rfl) ?_
  intro p e s m args below meth c Q X ret H locs hP hS ls hl
  have hx := X.1
  have hb := X.2.1
  have hl : lv_has ls 2 [(0, .ref (q 0)), (1, .int p0)] := hl
  have ret : ∀ {H : Heap} {locs : List Loc} {pc : Nat} {ls : Array Slot} {v : Bool} , some (v) = some o → WP g A (wM g q m_thrown m_length m_at m_fault m_toldWords m_orders m_value m_hasUnit m_places m_clocks m_held m_x m_y m_z m_first m_second m_aside m_jobs m_jobsImage m_clocksImage m_heldImage m_hasImage m_tape m_read m_order m_width m_guard m_points m_stages m_gain m_undo m_near m_quarter m_ln m_angle m_shift m_digit m_refused m_job m_jobKept m_result m_resultKept m_trace m_traceKept m_jobImage m_resultImage m_traceImage) H → va_S A s.heap H locs → decode cX11_hasOff pc = .ok (.ireturn, 1) → W p l e rm_X11_hasOff s m args below meth c H locs 0 0 Q (F0 m pc ls [.int (bI v)]) := by
    intro H locs pc ls v h hP hS hd
    cases h
    exact ret hP hS hd
  unfold f_X11_hasOff at h
  refine lv_aload_n hx hb dX11_hasOff_0 rfl (lv_at hl 0 rfl) ?_
  refine gf_X11_260_M_0 X hP dX11_hasOff_1 ?_
  refine jx1 h (P := fun (v1 : Bool) => ∀ ls : Array Slot, lv_has ls 2 [] → W p l e rm_X11_hasOff s m args below meth c H locs 0 0 Q (F0 m 22 ls [.int (bI v1)])) ?_ ?_
  · intro v1 h ls hl
    exact ret h hP hS dX11_hasOff_22
  · intro J h
    refine rb_eq (tgt := 21) hx hb dX11_hasOff_4 rfl (fun c4 => ?_) (fun c4 => ?_)
    · refine lv_iconst (v := 0) hx hb dX11_hasOff_21 rfl ?_
      exact J _ (lt_in c4 h) ls (lv_sub hl [] rfl)
    · refine lv_iload_n hx hb dX11_hasOff_7 rfl (lv_at hl 1 rfl) ?_
      refine lv_if_eq (tgt := 17) hx hb dX11_hasOff_8 rfl (fun c8 => ?_) (fun c8 => ?_)
      · refine lv_iconst (v := 1) hx hb dX11_hasOff_17 rfl ?_
        refine lv_goto (tgt := 22) hx hb dX11_hasOff_18 rfl ?_
        exact J _ (lt_ip c8 (lt_ip c4 h)) ls (lv_sub hl [] rfl)
      · refine lv_iload_n hx hb dX11_hasOff_11 rfl (lv_at hl 1 rfl) ?_
        refine lv_bipush (v := 6) hx hb dX11_hasOff_12 rfl ?_
        refine lv_icmp_ne (tgt := 21) hx hb dX11_hasOff_14 rfl (fun c14 => ?_) (fun c14 => ?_)
        · refine lv_iconst (v := 0) hx hb dX11_hasOff_21 rfl ?_
          exact J _ (lt_in c14 (lt_in c8 (lt_ip c4 h))) ls (lv_sub hl [] rfl)
        · refine lv_iconst (v := 1) hx hb dX11_hasOff_17 rfl ?_
          refine lv_goto (tgt := 22) hx hb dX11_hasOff_18 rfl ?_
          exact J _ (lt_ip c14 (lt_in c8 (lt_ip c4 h))) ls (lv_sub hl [] rfl)
abbrev rm_X11_off : Room := { frames := 1, cells := 0, slots := 0, locals := 27 }
set_option maxRecDepth 100000 in
set_option maxHeartbeats 4000000 in
theorem c_X11_off {g : gT} {l : Launch} {A : Nat → Prop} {q : Nat → Nat} {m_thrown : Int32} {m_length : Int32} {m_at : Int32} {m_fault : Int32} {m_toldWords : Int32} {m_orders : Int32} {m_value : Int32} {m_hasUnit : Bool} {m_places : Int32} {m_clocks : Int32} {m_held : Bool} {m_x : Int64} {m_y : Int64} {m_z : Int64} {m_first : Int64} {m_second : Int64} {m_aside : Int32} {m_jobs : Int32} {m_jobsImage : Int32} {m_clocksImage : Int32} {m_heldImage : Bool} {m_hasImage : Bool} {m_tape : Nat → Int32} {m_read : Nat → Int32} {m_order : Nat → Int32} {m_width : Nat → Int32} {m_guard : Nat → Int32} {m_points : Nat → Int32} {m_stages : Nat → Int32} {m_gain : Nat → Int32} {m_undo : Nat → Int32} {m_near : Nat → Bool} {m_quarter : Nat → Int64} {m_ln : Nat → Int64} {m_angle : Nat → Int64} {m_shift : Nat → Int32} {m_digit : Nat → Int32} {m_refused : Nat → Int32} {m_job : Nat → Int32} {m_jobKept : Nat → Int32} {m_result : Nat → Int32} {m_resultKept : Nat → Int32} {m_trace : Nat → Int64} {m_traceKept : Nat → Int64} {m_jobImage : Nat → Int32} {m_resultImage : Nat → Int32} {m_traceImage : Nat → Int64} {p0 : Int32} {o : Int32 × Int32} (h : f_X11_off p0 m_thrown m_hasUnit m_guard m_stages m_angle = some o) : Std g l yX11_off (.code yX11_off cX11_off 2 (some .int) :: gw) rm_X11_off A [.ref (q 0), .int p0] (wM g q m_thrown m_length m_at m_fault m_toldWords m_orders m_value m_hasUnit m_places m_clocks m_held m_x m_y m_z m_first m_second m_aside m_jobs m_jobsImage m_clocksImage m_heldImage m_hasImage m_tape m_read m_order m_width m_guard m_points m_stages m_gain m_undo m_near m_quarter m_ln m_angle m_shift m_digit m_refused m_job m_jobKept m_result m_resultKept m_trace m_traceKept m_jobImage m_resultImage m_traceImage) (wM g q o.2 m_length m_at m_fault m_toldWords m_orders m_value m_hasUnit m_places m_clocks m_held m_x m_y m_z m_first m_second m_aside m_jobs m_jobsImage m_clocksImage m_heldImage m_hasImage m_tape m_read m_order m_width m_guard m_points m_stages m_gain m_undo m_near m_quarter m_ln m_angle m_shift m_digit m_refused m_job m_jobKept m_result m_resultKept m_trace m_traceKept m_jobImage m_resultImage m_traceImage) (some (.int o.1)) := by
  refine std_i (own := RX11) (by decide +kernel) rfl (Nat.le_of_ble_eq_true rfl) ?_
  intro p e s m args below meth c Q X ret H locs hP hS ls hl
  have hx := X.1
  have hb := X.2.1
  have hl : lv_has ls 2 [(0, .ref (q 0)), (1, .int p0)] := hl
  have ret : ∀ {H : Heap} {locs : List Loc} {pc : Nat} {ls : Array Slot} {v : Int32} {m_thrown : Int32}, some (v, m_thrown) = some o → WP g A (wM g q m_thrown m_length m_at m_fault m_toldWords m_orders m_value m_hasUnit m_places m_clocks m_held m_x m_y m_z m_first m_second m_aside m_jobs m_jobsImage m_clocksImage m_heldImage m_hasImage m_tape m_read m_order m_width m_guard m_points m_stages m_gain m_undo m_near m_quarter m_ln m_angle m_shift m_digit m_refused m_job m_jobKept m_result m_resultKept m_trace m_traceKept m_jobImage m_resultImage m_traceImage) H → va_S A s.heap H locs → decode cX11_off pc = .ok (.ireturn, 1) → W p l e rm_X11_off s m args below meth c H locs 0 0 Q (F0 m pc ls [.int v]) := by
    intro H locs pc ls v m_thrown h hP hS hd
    cases h
    exact ret hP hS hd
  unfold f_X11_off at h
  refine lv_aload_n hx hb dX11_off_0 rfl (lv_at hl 0 rfl) ?_
  refine lv_iconst (v := 0) hx hb dX11_off_1 rfl ?_
  refine pf_X11_5_M_0 (v0 := (0 : Int32)) X hP hS dX11_off_2 (fun H locs hP hS => ?_)
  refine lv_aload_n hx hb dX11_off_5 rfl (lv_at hl 0 rfl) ?_
  refine lv_iload_n hx hb dX11_off_6 rfl (lv_at hl 1 rfl) ?_
  obtain ⟨o1, hco1, h⟩ := bd_of h
  refine kV (rest := []) X dX11_off_7 wd_7_33 mw_X11_hasOff wd_7_35 wp_8_12 hP (k0 := 0) rfl rfl rfl hS (fun _ z => z) (c_X11_hasOff hco1) rfl hl.1 rfl (Nat.le_of_ble_eq_true rfl) rfl rfl ⟨Nat.le_of_ble_eq_true rfl, Nat.le_of_ble_eq_true rfl⟩ (fun H locs hP _ _ hS => ?_)
  refine W.eq (g2 := F0 m 10 ls [.int (bI o1)]) rfl ?_
  refine rb_eq (tgt := 28) hx hb dX11_off_10 rfl (fun c10 => ?_) (fun c10 => ?_)
  · have h := br_n c10 h
    refine lv_iconst (v := (-1)) hx hb dX11_off_28 rfl ?_
    exact ret h hP hS dX11_off_29
  · have h := br_p c10 h
    refine lv_aload_n hx hb dX11_off_13 rfl (lv_at hl 0 rfl) ?_
    refine lv_iload_n hx hb dX11_off_14 rfl (lv_at hl 1 rfl) ?_
    refine lv_aload_n hx hb dX11_off_15 rfl (lv_at hl 0 rfl) ?_
    refine gf_X11_171_M_0 X hP dX11_off_16 ?_
    refine lv_iconst (v := 0) hx hb dX11_off_19 rfl ?_
    obtain ⟨hi20, h⟩ := gv_of h
    refine al_M_7 X hP hi20 dX11_off_20 ?_
    obtain ⟨o2, hco2, h⟩ := bd_of h
    refine kV (rest := []) X dX11_off_21 wd_7_37 mw_X11_offBy wd_7_39 wp_8_13 hP (k0 := 0) rfl rfl rfl hS (fun _ z => z) (c_X11_offBy hco2) rfl hl.1 rfl (Nat.le_of_ble_eq_true rfl) rfl rfl ⟨Nat.le_of_ble_eq_true rfl, Nat.le_of_ble_eq_true rfl⟩ (fun H locs hP _ _ hS => ?_)
    refine W.eq (g2 := F0 m 24 ls [.long o2]) rfl ?_
    refine lv_l2i hx hb dX11_off_24 rfl ?_
    refine lv_goto (tgt := 29) hx hb dX11_off_25 rfl ?_
    exact ret h hP hS dX11_off_29
abbrev rm_X11_fewest : Room := { frames := 1, cells := 0, slots := 0, locals := 27 }
set_option maxRecDepth 100000 in
set_option maxHeartbeats 4000000 in
theorem c_X11_fewest {g : gT} {l : Launch} {A : Nat → Prop} {q : Nat → Nat} {m_thrown : Int32} {m_length : Int32} {m_at : Int32} {m_fault : Int32} {m_toldWords : Int32} {m_orders : Int32} {m_value : Int32} {m_hasUnit : Bool} {m_places : Int32} {m_clocks : Int32} {m_held : Bool} {m_x : Int64} {m_y : Int64} {m_z : Int64} {m_first : Int64} {m_second : Int64} {m_aside : Int32} {m_jobs : Int32} {m_jobsImage : Int32} {m_clocksImage : Int32} {m_heldImage : Bool} {m_hasImage : Bool} {m_tape : Nat → Int32} {m_read : Nat → Int32} {m_order : Nat → Int32} {m_width : Nat → Int32} {m_guard : Nat → Int32} {m_points : Nat → Int32} {m_stages : Nat → Int32} {m_gain : Nat → Int32} {m_undo : Nat → Int32} {m_near : Nat → Bool} {m_quarter : Nat → Int64} {m_ln : Nat → Int64} {m_angle : Nat → Int64} {m_shift : Nat → Int32} {m_digit : Nat → Int32} {m_refused : Nat → Int32} {m_job : Nat → Int32} {m_jobKept : Nat → Int32} {m_result : Nat → Int32} {m_resultKept : Nat → Int32} {m_trace : Nat → Int64} {m_traceKept : Nat → Int64} {m_jobImage : Nat → Int32} {m_resultImage : Nat → Int32} {m_traceImage : Nat → Int64} {p0 : Int32} {p1 : Int32} {o : Int32 × Int32} (h : f_X11_fewest p0 p1 m_thrown m_hasUnit m_guard m_angle = some o) : Std g l yX11_fewest (.code yX11_fewest cX11_fewest 4 (some .int) :: gw) rm_X11_fewest A [.ref (q 0), .int p0, .int p1] (wM g q m_thrown m_length m_at m_fault m_toldWords m_orders m_value m_hasUnit m_places m_clocks m_held m_x m_y m_z m_first m_second m_aside m_jobs m_jobsImage m_clocksImage m_heldImage m_hasImage m_tape m_read m_order m_width m_guard m_points m_stages m_gain m_undo m_near m_quarter m_ln m_angle m_shift m_digit m_refused m_job m_jobKept m_result m_resultKept m_trace m_traceKept m_jobImage m_resultImage m_traceImage) (wM g q o.2 m_length m_at m_fault m_toldWords m_orders m_value m_hasUnit m_places m_clocks m_held m_x m_y m_z m_first m_second m_aside m_jobs m_jobsImage m_clocksImage m_heldImage m_hasImage m_tape m_read m_order m_width m_guard m_points m_stages m_gain m_undo m_near m_quarter m_ln m_angle m_shift m_digit m_refused m_job m_jobKept m_result m_resultKept m_trace m_traceKept m_jobImage m_resultImage m_traceImage) (some (.int o.1)) := by
  refine std_i (own := RX11) (by decide +kernel) rfl (Nat.le_of_ble_eq_true rfl) ?_
  intro p e s m args below meth c Q X ret H locs hP hS ls hl
  have hx := X.1
  have hb := X.2.1
  have hl : lv_has ls 4 [(0, .ref (q 0)), (1, .int p0), (2, .int p1)] := hl
  have ret : ∀ {H : Heap} {locs : List Loc} {pc : Nat} {ls : Array Slot} {v : Int32} {m_thrown : Int32}, some (v, m_thrown) = some o → WP g A (wM g q m_thrown m_length m_at m_fault m_toldWords m_orders m_value m_hasUnit m_places m_clocks m_held m_x m_y m_z m_first m_second m_aside m_jobs m_jobsImage m_clocksImage m_heldImage m_hasImage m_tape m_read m_order m_width m_guard m_points m_stages m_gain m_undo m_near m_quarter m_ln m_angle m_shift m_digit m_refused m_job m_jobKept m_result m_resultKept m_trace m_traceKept m_jobImage m_resultImage m_traceImage) H → va_S A s.heap H locs → decode cX11_fewest pc = .ok (.ireturn, 1) → W p l e rm_X11_fewest s m args below meth c H locs 0 0 Q (F0 m pc ls [.int v]) := by
    intro H locs pc ls v m_thrown h hP hS hd
    cases h
    exact ret hP hS hd
  have l17 : ∀ (n : Nat), ∀ (x1 : Int32) (x2 : Int32) (x3 : Int32) (m_thrown : Int32) (H : Heap) (locs : List Loc) (ls : Array Slot), f_X11_fewest_l17  m_hasUnit m_guard m_angle  n x1 x2 x3 m_thrown = some o → WP g A (wM g q m_thrown m_length m_at m_fault m_toldWords m_orders m_value m_hasUnit m_places m_clocks m_held m_x m_y m_z m_first m_second m_aside m_jobs m_jobsImage m_clocksImage m_heldImage m_hasImage m_tape m_read m_order m_width m_guard m_points m_stages m_gain m_undo m_near m_quarter m_ln m_angle m_shift m_digit m_refused m_job m_jobKept m_result m_resultKept m_trace m_traceKept m_jobImage m_resultImage m_traceImage) H → va_S A s.heap H locs → lv_has ls 4 [(0, .ref (q 0)), (1, .int x1), (2, .int x2), (3, .int x3)] → W p l e rm_X11_fewest s m args below meth c H locs 0 0 Q (F0 m 17 ls []) := by
    intro  n
    induction n with
    | zero =>
      intro x1 x2 x3 m_thrown H locs ls h
      exact nz_of h
    | succ n ih =>
      intro x1 x2 x3 m_thrown H locs ls h hP hS hl
      rw [f_X11_fewest_l17] at h
      refine lv_iload_n hx hb dX11_fewest_17 rfl (lv_at hl 3 rfl) ?_
      refine lv_bipush (v := 24) hx hb dX11_fewest_18 rfl ?_
      refine lv_icmp_gt (tgt := 43) hx hb dX11_fewest_20 rfl (fun c20 => ?_) (fun c20 => ?_)
      · have h := br_p c20 h
        refine lv_iconst (v := (-1)) hx hb dX11_fewest_43 rfl ?_
        exact ret h hP hS dX11_fewest_44
      · have h := br_n c20 h
        refine lv_aload_n hx hb dX11_fewest_23 rfl (lv_at hl 0 rfl) ?_
        refine lv_iload_n hx hb dX11_fewest_24 rfl (lv_at hl 1 rfl) ?_
        refine lv_iload_n hx hb dX11_fewest_25 rfl (lv_at hl 3 rfl) ?_
        obtain ⟨o2, hco2, h⟩ := bd_of h
        refine kV (rest := []) X dX11_fewest_26 wd_7_37 mw_X11_offBy wd_7_39 wp_8_13 hP (k0 := 0) rfl rfl rfl hS (fun _ z => z) (c_X11_offBy hco2) rfl hl.1 rfl (Nat.le_of_ble_eq_true rfl) rfl rfl ⟨Nat.le_of_ble_eq_true rfl, Nat.le_of_ble_eq_true rfl⟩ (fun H locs hP _ _ hS => ?_)
        refine W.eq (g2 := F0 m 29 ls [.long o2]) rfl ?_
        refine lv_iload_n hx hb dX11_fewest_29 rfl (lv_at hl 2 rfl) ?_
        refine lv_i2l hx hb dX11_fewest_30 rfl ?_
        refine rl_gt (tgt := 37) hx hb dX11_fewest_31 dX11_fewest_32 rfl (fun c31 => ?_) (fun c31 => ?_)
        · have h := br_p c31 h
          obtain ⟨v3, ev3⟩ : ∃ z : Int32, z = (x3 + 1) := ⟨_, rfl⟩
          have h := lt_at ev3 h
          refine lv_iinc (v := v3) (lv' := [(3, .int v3), (0, .ref (q 0)), (1, .int x1), (2, .int x2)]) hx hb dX11_fewest_37 hl (k := 3) rfl (by rw [ev3]; rfl) (by decide) rfl (fun ls hl => ?_)
          refine lv_goto (tgt := 17) hx hb dX11_fewest_40 rfl ?_
          exact ih x1 x2 v3 m_thrown _ _ _ h hP hS (lv_sub hl [1, 2, 3, 0] rfl)
        · have h := br_n c31 h
          refine lv_iload_n hx hb dX11_fewest_35 rfl (lv_at hl 3 rfl) ?_
          exact ret h hP hS dX11_fewest_36
  unfold f_X11_fewest at h
  refine lv_aload_n hx hb dX11_fewest_0 rfl (lv_at hl 0 rfl) ?_
  refine lv_iconst (v := 0) hx hb dX11_fewest_1 rfl ?_
  refine pf_X11_5_M_0 (v0 := (0 : Int32)) X hP hS dX11_fewest_2 (fun H locs hP hS => ?_)
  refine lv_aload_n hx hb dX11_fewest_5 rfl (lv_at hl 0 rfl) ?_
  refine lv_iload_n hx hb dX11_fewest_6 rfl (lv_at hl 1 rfl) ?_
  obtain ⟨o1, hco1, h⟩ := bd_of h
  refine kV (rest := []) X dX11_fewest_7 wd_7_33 mw_X11_hasOff wd_7_35 wp_8_12 hP (k0 := 0) rfl rfl rfl hS (fun _ z => z) (c_X11_hasOff hco1) rfl hl.1 rfl (Nat.le_of_ble_eq_true rfl) rfl rfl ⟨Nat.le_of_ble_eq_true rfl, Nat.le_of_ble_eq_true rfl⟩ (fun H locs hP _ _ hS => ?_)
  refine W.eq (g2 := F0 m 10 ls [.int (bI o1)]) rfl ?_
  refine rb_ne (tgt := 15) hx hb dX11_fewest_10 rfl (fun c10 => ?_) (fun c10 => ?_)
  · have h := br_p c10 h
    refine lv_iconst (v := 5) hx hb dX11_fewest_15 rfl ?_
    refine lv_istore_n (lv' := [(3, .int 5), (0, .ref (q 0)), (1, .int p0), (2, .int p1)]) hx hb dX11_fewest_16 rfl hl (by decide) rfl (fun ls hl => ?_)
    exact l17  FU p0 p1 (5 : Int32) (0 : Int32) _ _ _ h hP hS (lv_sub hl [1, 2, 3, 0] rfl)
  · have h := br_n c10 h
    refine lv_iconst (v := (-1)) hx hb dX11_fewest_13 rfl ?_
    exact ret h hP hS dX11_fewest_14
abbrev rm_X11_of : Room := { frames := 0, cells := 0, slots := 0, locals := 0 }
set_option maxRecDepth 100000 in
set_option maxHeartbeats 4000000 in
theorem c_X11_of {g : gT} {l : Launch} {A : Nat → Prop} {q : Nat → Nat} {m_thrown : Int32} {m_length : Int32} {m_at : Int32} {m_fault : Int32} {m_toldWords : Int32} {m_orders : Int32} {m_value : Int32} {m_hasUnit : Bool} {m_places : Int32} {m_clocks : Int32} {m_held : Bool} {m_x : Int64} {m_y : Int64} {m_z : Int64} {m_first : Int64} {m_second : Int64} {m_aside : Int32} {m_jobs : Int32} {m_jobsImage : Int32} {m_clocksImage : Int32} {m_heldImage : Bool} {m_hasImage : Bool} {m_tape : Nat → Int32} {m_read : Nat → Int32} {m_order : Nat → Int32} {m_width : Nat → Int32} {m_guard : Nat → Int32} {m_points : Nat → Int32} {m_stages : Nat → Int32} {m_gain : Nat → Int32} {m_undo : Nat → Int32} {m_near : Nat → Bool} {m_quarter : Nat → Int64} {m_ln : Nat → Int64} {m_angle : Nat → Int64} {m_shift : Nat → Int32} {m_digit : Nat → Int32} {m_refused : Nat → Int32} {m_job : Nat → Int32} {m_jobKept : Nat → Int32} {m_result : Nat → Int32} {m_resultKept : Nat → Int32} {m_trace : Nat → Int64} {m_traceKept : Nat → Int64} {m_jobImage : Nat → Int32} {m_resultImage : Nat → Int32} {m_traceImage : Nat → Int64} {p0 : Int32} {p1 : Int32} {o : Int32} (h : f_X11_of p0 p1 m_job = some o) : Std g l yX11_of (.code yX11_of cX11_of 3 (some .int) :: gw) rm_X11_of A [.ref (q 0), .int p0, .int p1] (wM g q m_thrown m_length m_at m_fault m_toldWords m_orders m_value m_hasUnit m_places m_clocks m_held m_x m_y m_z m_first m_second m_aside m_jobs m_jobsImage m_clocksImage m_heldImage m_hasImage m_tape m_read m_order m_width m_guard m_points m_stages m_gain m_undo m_near m_quarter m_ln m_angle m_shift m_digit m_refused m_job m_jobKept m_result m_resultKept m_trace m_traceKept m_jobImage m_resultImage m_traceImage) (wM g q m_thrown m_length m_at m_fault m_toldWords m_orders m_value m_hasUnit m_places m_clocks m_held m_x m_y m_z m_first m_second m_aside m_jobs m_jobsImage m_clocksImage m_heldImage m_hasImage m_tape m_read m_order m_width m_guard m_points m_stages m_gain m_undo m_near m_quarter m_ln m_angle m_shift m_digit m_refused m_job m_jobKept m_result m_resultKept m_trace m_traceKept m_jobImage m_resultImage m_traceImage) (some (.int o)) := by
  refine std_i (own := RX11) (by decide +kernel) rfl (Nat.le_of_ble_eq_true rfl) ?_
  intro p e s m args below meth c Q X ret H locs hP hS ls hl
  have hx := X.1
  have hb := X.2.1
  have hl : lv_has ls 3 [(0, .ref (q 0)), (1, .int p0), (2, .int p1)] := hl
  have ret : ∀ {H : Heap} {locs : List Loc} {pc : Nat} {ls : Array Slot} {v : Int32} , some (v) = some o → WP g A (wM g q m_thrown m_length m_at m_fault m_toldWords m_orders m_value m_hasUnit m_places m_clocks m_held m_x m_y m_z m_first m_second m_aside m_jobs m_jobsImage m_clocksImage m_heldImage m_hasImage m_tape m_read m_order m_width m_guard m_points m_stages m_gain m_undo m_near m_quarter m_ln m_angle m_shift m_digit m_refused m_job m_jobKept m_result m_resultKept m_trace m_traceKept m_jobImage m_resultImage m_traceImage) H → va_S A s.heap H locs → decode cX11_of pc = .ok (.ireturn, 1) → W p l e rm_X11_of s m args below meth c H locs 0 0 Q (F0 m pc ls [.int v]) := by
    intro H locs pc ls v h hP hS hd
    cases h
    exact ret hP hS hd
  unfold f_X11_of at h
  refine lv_aload_n hx hb dX11_of_0 rfl (lv_at hl 0 rfl) ?_
  refine gf_X11_226_M_0 X hP dX11_of_1 ?_
  refine lv_bipush (v := 14) hx hb dX11_of_4 rfl ?_
  refine lv_iload_n hx hb dX11_of_6 rfl (lv_at hl 1 rfl) ?_
  refine lv_imul hx hb dX11_of_7 ?_
  refine lv_iload_n hx hb dX11_of_8 rfl (lv_at hl 2 rfl) ?_
  refine lv_iadd hx hb dX11_of_9 ?_
  obtain ⟨hi10, h⟩ := gv_of h
  refine al_M_17 X hP hi10 dX11_of_10 ?_
  exact ret h hP hS dX11_of_11
abbrev rm_X11_isJob : Room := { frames := 1, cells := 0, slots := 0, locals := 25 }
set_option maxRecDepth 100000 in
set_option maxHeartbeats 4000000 in
theorem c_X11_isJob {g : gT} {l : Launch} {A : Nat → Prop} {q : Nat → Nat} {m_thrown : Int32} {m_length : Int32} {m_at : Int32} {m_fault : Int32} {m_toldWords : Int32} {m_orders : Int32} {m_value : Int32} {m_hasUnit : Bool} {m_places : Int32} {m_clocks : Int32} {m_held : Bool} {m_x : Int64} {m_y : Int64} {m_z : Int64} {m_first : Int64} {m_second : Int64} {m_aside : Int32} {m_jobs : Int32} {m_jobsImage : Int32} {m_clocksImage : Int32} {m_heldImage : Bool} {m_hasImage : Bool} {m_tape : Nat → Int32} {m_read : Nat → Int32} {m_order : Nat → Int32} {m_width : Nat → Int32} {m_guard : Nat → Int32} {m_points : Nat → Int32} {m_stages : Nat → Int32} {m_gain : Nat → Int32} {m_undo : Nat → Int32} {m_near : Nat → Bool} {m_quarter : Nat → Int64} {m_ln : Nat → Int64} {m_angle : Nat → Int64} {m_shift : Nat → Int32} {m_digit : Nat → Int32} {m_refused : Nat → Int32} {m_job : Nat → Int32} {m_jobKept : Nat → Int32} {m_result : Nat → Int32} {m_resultKept : Nat → Int32} {m_trace : Nat → Int64} {m_traceKept : Nat → Int64} {m_jobImage : Nat → Int32} {m_resultImage : Nat → Int32} {m_traceImage : Nat → Int64} {p0 : Int32} {o : Bool} (h : f_X11_isJob p0 m_hasUnit m_jobs = some o) : Std g l yX11_isJob (.code yX11_isJob cX11_isJob 2 (some .boolean) :: gw) rm_X11_isJob A [.ref (q 0), .int p0] (wM g q m_thrown m_length m_at m_fault m_toldWords m_orders m_value m_hasUnit m_places m_clocks m_held m_x m_y m_z m_first m_second m_aside m_jobs m_jobsImage m_clocksImage m_heldImage m_hasImage m_tape m_read m_order m_width m_guard m_points m_stages m_gain m_undo m_near m_quarter m_ln m_angle m_shift m_digit m_refused m_job m_jobKept m_result m_resultKept m_trace m_traceKept m_jobImage m_resultImage m_traceImage) (wM g q m_thrown m_length m_at m_fault m_toldWords m_orders m_value m_hasUnit m_places m_clocks m_held m_x m_y m_z m_first m_second m_aside m_jobs m_jobsImage m_clocksImage m_heldImage m_hasImage m_tape m_read m_order m_width m_guard m_points m_stages m_gain m_undo m_near m_quarter m_ln m_angle m_shift m_digit m_refused m_job m_jobKept m_result m_resultKept m_trace m_traceKept m_jobImage m_resultImage m_traceImage) (some (.int (bI o))) := by
  refine std_z (own := RX11) (by decide +kernel) rfl (Nat.le_of_ble_eq_true rfl) ?_
  intro p e s m args below meth c Q X ret H locs hP hS ls hl
  have hx := X.1
  have hb := X.2.1
  have hl : lv_has ls 2 [(0, .ref (q 0)), (1, .int p0)] := hl
  have ret : ∀ {H : Heap} {locs : List Loc} {pc : Nat} {ls : Array Slot} {v : Bool} , some (v) = some o → WP g A (wM g q m_thrown m_length m_at m_fault m_toldWords m_orders m_value m_hasUnit m_places m_clocks m_held m_x m_y m_z m_first m_second m_aside m_jobs m_jobsImage m_clocksImage m_heldImage m_hasImage m_tape m_read m_order m_width m_guard m_points m_stages m_gain m_undo m_near m_quarter m_ln m_angle m_shift m_digit m_refused m_job m_jobKept m_result m_resultKept m_trace m_traceKept m_jobImage m_resultImage m_traceImage) H → va_S A s.heap H locs → decode cX11_isJob pc = .ok (.ireturn, 1) → W p l e rm_X11_isJob s m args below meth c H locs 0 0 Q (F0 m pc ls [.int (bI v)]) := by
    intro H locs pc ls v h hP hS hd
    cases h
    exact ret hP hS hd
  have b27 : ∀  (H : Heap) (locs : List Loc) (ls : Array Slot), f_X11_isJob_b27  m_hasUnit m_jobs   = some o → WP g A (wM g q m_thrown m_length m_at m_fault m_toldWords m_orders m_value m_hasUnit m_places m_clocks m_held m_x m_y m_z m_first m_second m_aside m_jobs m_jobsImage m_clocksImage m_heldImage m_hasImage m_tape m_read m_order m_width m_guard m_points m_stages m_gain m_undo m_near m_quarter m_ln m_angle m_shift m_digit m_refused m_job m_jobKept m_result m_resultKept m_trace m_traceKept m_jobImage m_resultImage m_traceImage) H → va_S A s.heap H locs → lv_has ls 2 [] → W p l e rm_X11_isJob s m args below meth c H locs 0 0 Q (F0 m 27 ls []) := by
    intro   H locs ls h hP hS hl
    unfold f_X11_isJob_b27 at h
    refine lv_iconst (v := 0) hx hb dX11_isJob_27 rfl ?_
    exact ret h hP hS dX11_isJob_28
  unfold f_X11_isJob at h
  refine lv_aload_n hx hb dX11_isJob_0 rfl (lv_at hl 0 rfl) ?_
  refine gf_X11_260_M_0 X hP dX11_isJob_1 ?_
  refine rb_eq (tgt := 27) hx hb dX11_isJob_4 rfl (fun c4 => ?_) (fun c4 => ?_)
  · have h := br_n c4 h
    exact b27    _ _ _ h hP hS (lv_sub hl [] rfl)
  · have h := br_p c4 h
    refine lv_iload_n hx hb dX11_isJob_7 rfl (lv_at hl 1 rfl) ?_
    refine lv_i2l hx hb dX11_isJob_8 rfl ?_
    refine lv_lconst (v := 0) hx hb dX11_isJob_9 rfl ?_
    refine lv_aload_n hx hb dX11_isJob_10 rfl (lv_at hl 0 rfl) ?_
    refine gf_X11_273_M_0 X hP dX11_isJob_11 ?_
    refine lv_iconst (v := 1) hx hb dX11_isJob_14 rfl ?_
    refine lv_isub hx hb dX11_isJob_15 ?_
    refine lv_i2l hx hb dX11_isJob_16 rfl ?_
    obtain ⟨o1, hco1, h⟩ := bd_of h
    refine kS (rest := []) X dX11_isJob_17 wd_5_153 mw_X11_isIn wd_5_154 hP hS (fun _ z => z) (c_X11_isIn hco1) rfl hl.1 rfl (Nat.le_of_ble_eq_true rfl) rfl rfl ⟨Nat.le_of_ble_eq_true rfl, Nat.le_of_ble_eq_true rfl⟩ (fun H locs hP _ _ hS => ?_)
    refine W.eq (g2 := F0 m 20 ls [.int (bI o1)]) rfl ?_
    refine jx1 h (P := fun (v2 : Bool) => ∀ ls : Array Slot, lv_has ls 2 [] → W p l e rm_X11_isJob s m args below meth c H locs 0 0 Q (F0 m 28 ls [.int (bI v2)])) ?_ ?_
    · intro v2 h ls hl
      exact ret h hP hS dX11_isJob_28
    · intro J h
      refine rb_eq (tgt := 27) hx hb dX11_isJob_20 rfl (fun c20 => ?_) (fun c20 => ?_)
      · refine lv_iconst (v := 0) hx hb dX11_isJob_27 rfl ?_
        exact J _ (lt_in c20 h) ls (lv_sub hl [] rfl)
      · refine lv_iconst (v := 1) hx hb dX11_isJob_23 rfl ?_
        refine lv_goto (tgt := 28) hx hb dX11_isJob_24 rfl ?_
        exact J _ (lt_ip c20 h) ls (lv_sub hl [] rfl)
abbrev rm_X11_refuse : Room := { frames := 0, cells := 0, slots := 0, locals := 0 }
set_option maxRecDepth 100000 in
set_option maxHeartbeats 4000000 in
theorem c_X11_refuse {g : gT} {l : Launch} {A : Nat → Prop} {q : Nat → Nat} {m_thrown : Int32} {m_length : Int32} {m_at : Int32} {m_fault : Int32} {m_toldWords : Int32} {m_orders : Int32} {m_value : Int32} {m_hasUnit : Bool} {m_places : Int32} {m_clocks : Int32} {m_held : Bool} {m_x : Int64} {m_y : Int64} {m_z : Int64} {m_first : Int64} {m_second : Int64} {m_aside : Int32} {m_jobs : Int32} {m_jobsImage : Int32} {m_clocksImage : Int32} {m_heldImage : Bool} {m_hasImage : Bool} {m_tape : Nat → Int32} {m_read : Nat → Int32} {m_order : Nat → Int32} {m_width : Nat → Int32} {m_guard : Nat → Int32} {m_points : Nat → Int32} {m_stages : Nat → Int32} {m_gain : Nat → Int32} {m_undo : Nat → Int32} {m_near : Nat → Bool} {m_quarter : Nat → Int64} {m_ln : Nat → Int64} {m_angle : Nat → Int64} {m_shift : Nat → Int32} {m_digit : Nat → Int32} {m_refused : Nat → Int32} {m_job : Nat → Int32} {m_jobKept : Nat → Int32} {m_result : Nat → Int32} {m_resultKept : Nat → Int32} {m_trace : Nat → Int64} {m_traceKept : Nat → Int64} {m_jobImage : Nat → Int32} {m_resultImage : Nat → Int32} {m_traceImage : Nat → Int64} {p0 : Int32} {o : Int32 × (Nat → Int32)} (h : f_X11_refuse p0 m_refused = some o) : Std g l yX11_refuse (.code yX11_refuse cX11_refuse 2 (some .int) :: gw) rm_X11_refuse A [.ref (q 0), .int p0] (wM g q m_thrown m_length m_at m_fault m_toldWords m_orders m_value m_hasUnit m_places m_clocks m_held m_x m_y m_z m_first m_second m_aside m_jobs m_jobsImage m_clocksImage m_heldImage m_hasImage m_tape m_read m_order m_width m_guard m_points m_stages m_gain m_undo m_near m_quarter m_ln m_angle m_shift m_digit m_refused m_job m_jobKept m_result m_resultKept m_trace m_traceKept m_jobImage m_resultImage m_traceImage) (wM g q m_thrown m_length m_at m_fault m_toldWords m_orders m_value m_hasUnit m_places m_clocks m_held m_x m_y m_z m_first m_second m_aside m_jobs m_jobsImage m_clocksImage m_heldImage m_hasImage m_tape m_read m_order m_width m_guard m_points m_stages m_gain m_undo m_near m_quarter m_ln m_angle m_shift m_digit o.2 m_job m_jobKept m_result m_resultKept m_trace m_traceKept m_jobImage m_resultImage m_traceImage) (some (.int o.1)) := by
  refine std_i (own := RX11) (by decide +kernel) rfl (Nat.le_of_ble_eq_true rfl) ?_
  intro p e s m args below meth c Q X ret H locs hP hS ls hl
  have hx := X.1
  have hb := X.2.1
  have hl : lv_has ls 2 [(0, .ref (q 0)), (1, .int p0)] := hl
  have ret : ∀ {H : Heap} {locs : List Loc} {pc : Nat} {ls : Array Slot} {v : Int32} {m_refused : Nat → Int32}, some (v, m_refused) = some o → WP g A (wM g q m_thrown m_length m_at m_fault m_toldWords m_orders m_value m_hasUnit m_places m_clocks m_held m_x m_y m_z m_first m_second m_aside m_jobs m_jobsImage m_clocksImage m_heldImage m_hasImage m_tape m_read m_order m_width m_guard m_points m_stages m_gain m_undo m_near m_quarter m_ln m_angle m_shift m_digit m_refused m_job m_jobKept m_result m_resultKept m_trace m_traceKept m_jobImage m_resultImage m_traceImage) H → va_S A s.heap H locs → decode cX11_refuse pc = .ok (.ireturn, 1) → W p l e rm_X11_refuse s m args below meth c H locs 0 0 Q (F0 m pc ls [.int v]) := by
    intro H locs pc ls v m_refused h hP hS hd
    cases h
    exact ret hP hS hd
  unfold f_X11_refuse at h
  refine lv_aload_n hx hb dX11_refuse_0 rfl (lv_at hl 0 rfl) ?_
  refine gf_X11_223_M_0 X hP dX11_refuse_1 ?_
  refine lv_iload_n hx hb dX11_refuse_4 rfl (lv_at hl 1 rfl) ?_
  refine lv_dup2_11 hx hb dX11_refuse_5 rfl rfl ?_
  obtain ⟨hi6, h⟩ := gv_of h
  refine al_M_16 X hP hi6 dX11_refuse_6 ?_
  refine lv_iconst (v := 1) hx hb dX11_refuse_7 rfl ?_
  refine lv_iadd hx hb dX11_refuse_8 ?_
  refine lv_topi (fun v1 ev1 => ?_)
  have h := lt_at ev1 h
  obtain ⟨hi9, h⟩ := gv_of h
  refine as_M_16 (v0 := v1) X hP hS hi9 dX11_refuse_9 (fun H locs hP hS => ?_)
  refine lv_iconst (v := (-1)) hx hb dX11_refuse_10 rfl ?_
  exact ret h hP hS dX11_refuse_11
abbrev rm_X11_adds : Room := { frames := 0, cells := 0, slots := 0, locals := 0 }
set_option maxRecDepth 100000 in
set_option maxHeartbeats 4000000 in
theorem c_X11_adds {g : gT} {l : Launch} {A : Nat → Prop} {q : Nat → Nat} {m_thrown : Int32} {m_length : Int32} {m_at : Int32} {m_fault : Int32} {m_toldWords : Int32} {m_orders : Int32} {m_value : Int32} {m_hasUnit : Bool} {m_places : Int32} {m_clocks : Int32} {m_held : Bool} {m_x : Int64} {m_y : Int64} {m_z : Int64} {m_first : Int64} {m_second : Int64} {m_aside : Int32} {m_jobs : Int32} {m_jobsImage : Int32} {m_clocksImage : Int32} {m_heldImage : Bool} {m_hasImage : Bool} {m_tape : Nat → Int32} {m_read : Nat → Int32} {m_order : Nat → Int32} {m_width : Nat → Int32} {m_guard : Nat → Int32} {m_points : Nat → Int32} {m_stages : Nat → Int32} {m_gain : Nat → Int32} {m_undo : Nat → Int32} {m_near : Nat → Bool} {m_quarter : Nat → Int64} {m_ln : Nat → Int64} {m_angle : Nat → Int64} {m_shift : Nat → Int32} {m_digit : Nat → Int32} {m_refused : Nat → Int32} {m_job : Nat → Int32} {m_jobKept : Nat → Int32} {m_result : Nat → Int32} {m_resultKept : Nat → Int32} {m_trace : Nat → Int64} {m_traceKept : Nat → Int64} {m_jobImage : Nat → Int32} {m_resultImage : Nat → Int32} {m_traceImage : Nat → Int64} {p0 : Int32} {p1 : Int32} {p2 : Int32} {p3 : Int32} {o : Int32 × (Nat → Int32)} (h : f_X11_adds p0 p1 p2 p3 m_clocks m_jobs m_job = some o) : Std g l yX11_adds (.code yX11_adds cX11_adds 7 none :: gw) rm_X11_adds A [.ref (q 0), .int p0, .int p1, .int p2, .int p3] (wM g q m_thrown m_length m_at m_fault m_toldWords m_orders m_value m_hasUnit m_places m_clocks m_held m_x m_y m_z m_first m_second m_aside m_jobs m_jobsImage m_clocksImage m_heldImage m_hasImage m_tape m_read m_order m_width m_guard m_points m_stages m_gain m_undo m_near m_quarter m_ln m_angle m_shift m_digit m_refused m_job m_jobKept m_result m_resultKept m_trace m_traceKept m_jobImage m_resultImage m_traceImage) (wM g q m_thrown m_length m_at m_fault m_toldWords m_orders m_value m_hasUnit m_places m_clocks m_held m_x m_y m_z m_first m_second m_aside o.1 m_jobsImage m_clocksImage m_heldImage m_hasImage m_tape m_read m_order m_width m_guard m_points m_stages m_gain m_undo m_near m_quarter m_ln m_angle m_shift m_digit m_refused o.2 m_jobKept m_result m_resultKept m_trace m_traceKept m_jobImage m_resultImage m_traceImage) none := by
  refine std_v (own := RX11) (by decide +kernel) rfl (Nat.le_of_ble_eq_true rfl) ?_
  intro p e s m args below meth c Q X ret H locs hP hS ls hl
  have hx := X.1
  have hb := X.2.1
  have hl : lv_has ls 7 [(0, .ref (q 0)), (1, .int p0), (2, .int p1), (3, .int p2), (4, .int p3)] := hl
  have ret : ∀ {H : Heap} {locs : List Loc} {pc : Nat} {ls : Array Slot} {m_jobs : Int32} {m_job : Nat → Int32}, some (m_jobs, m_job) = some o → WP g A (wM g q m_thrown m_length m_at m_fault m_toldWords m_orders m_value m_hasUnit m_places m_clocks m_held m_x m_y m_z m_first m_second m_aside m_jobs m_jobsImage m_clocksImage m_heldImage m_hasImage m_tape m_read m_order m_width m_guard m_points m_stages m_gain m_undo m_near m_quarter m_ln m_angle m_shift m_digit m_refused m_job m_jobKept m_result m_resultKept m_trace m_traceKept m_jobImage m_resultImage m_traceImage) H → va_S A s.heap H locs → decode cX11_adds pc = .ok (.return_, 1) → W p l e rm_X11_adds s m args below meth c H locs 0 0 Q (F0 m pc ls []) := by
    intro H locs pc ls m_jobs m_job h hP hS hd
    cases h
    exact ret hP hS hd
  have l12 : ∀ (n : Nat), ∀ (x1 : Int32) (x2 : Int32) (x3 : Int32) (x4 : Int32) (x5 : Int32) (x6 : Int32) (m_jobs : Int32) (m_job : Nat → Int32) (H : Heap) (locs : List Loc) (ls : Array Slot), f_X11_adds_l12  m_clocks  n x1 x2 x3 x4 x5 x6 m_jobs m_job = some o → WP g A (wM g q m_thrown m_length m_at m_fault m_toldWords m_orders m_value m_hasUnit m_places m_clocks m_held m_x m_y m_z m_first m_second m_aside m_jobs m_jobsImage m_clocksImage m_heldImage m_hasImage m_tape m_read m_order m_width m_guard m_points m_stages m_gain m_undo m_near m_quarter m_ln m_angle m_shift m_digit m_refused m_job m_jobKept m_result m_resultKept m_trace m_traceKept m_jobImage m_resultImage m_traceImage) H → va_S A s.heap H locs → lv_has ls 7 [(0, .ref (q 0)), (1, .int x1), (2, .int x2), (3, .int x3), (4, .int x4), (5, .int x5), (6, .int x6)] → W p l e rm_X11_adds s m args below meth c H locs 0 0 Q (F0 m 12 ls []) := by
    intro  n
    induction n with
    | zero =>
      intro x1 x2 x3 x4 x5 x6 m_jobs m_job H locs ls h
      exact nz_of h
    | succ n ih =>
      intro x1 x2 x3 x4 x5 x6 m_jobs m_job H locs ls h hP hS hl
      rw [f_X11_adds_l12] at h
      refine lv_iload hx hb dX11_adds_12 (lv_at hl 6 rfl) ?_
      refine lv_bipush (v := 14) hx hb dX11_adds_14 rfl ?_
      refine lv_icmp_ge (tgt := 61) hx hb dX11_adds_16 rfl (fun c16 => ?_) (fun c16 => ?_)
      · have h := br_p c16 h
        refine lv_aload_n hx hb dX11_adds_61 rfl (lv_at hl 0 rfl) ?_
        refine gf_X11_226_M_0 X hP dX11_adds_62 ?_
        refine lv_iload hx hb dX11_adds_65 (lv_at hl 5 rfl) ?_
        refine lv_iload_n hx hb dX11_adds_67 rfl (lv_at hl 1 rfl) ?_
        obtain ⟨hi68, h⟩ := gv_of h
        refine as_M_17 (v0 := x1) X hP hS hi68 dX11_adds_68 (fun H locs hP hS => ?_)
        refine lv_aload_n hx hb dX11_adds_69 rfl (lv_at hl 0 rfl) ?_
        refine gf_X11_226_M_0 X hP dX11_adds_70 ?_
        refine lv_iload hx hb dX11_adds_73 (lv_at hl 5 rfl) ?_
        refine lv_bipush (v := 13) hx hb dX11_adds_75 rfl ?_
        refine lv_iadd hx hb dX11_adds_77 ?_
        refine lv_aload_n hx hb dX11_adds_78 rfl (lv_at hl 0 rfl) ?_
        refine gf_X11_267_M_0 X hP dX11_adds_79 ?_
        obtain ⟨hi82, h⟩ := gv_of h
        refine as_M_17 (v0 := m_clocks) X hP hS hi82 dX11_adds_82 (fun H locs hP hS => ?_)
        refine lv_aload_n hx hb dX11_adds_83 rfl (lv_at hl 0 rfl) ?_
        refine gf_X11_226_M_0 X hP dX11_adds_84 ?_
        refine lv_iload hx hb dX11_adds_87 (lv_at hl 5 rfl) ?_
        refine lv_iconst (v := 1) hx hb dX11_adds_89 rfl ?_
        refine lv_iadd hx hb dX11_adds_90 ?_
        refine lv_iload_n hx hb dX11_adds_91 rfl (lv_at hl 2 rfl) ?_
        obtain ⟨hi92, h⟩ := gv_of h
        refine as_M_17 (v0 := x2) X hP hS hi92 dX11_adds_92 (fun H locs hP hS => ?_)
        refine lv_aload_n hx hb dX11_adds_93 rfl (lv_at hl 0 rfl) ?_
        refine gf_X11_226_M_0 X hP dX11_adds_94 ?_
        refine lv_iload hx hb dX11_adds_97 (lv_at hl 5 rfl) ?_
        refine lv_iconst (v := 1) hx hb dX11_adds_99 rfl ?_
        refine lv_iadd hx hb dX11_adds_100 ?_
        refine lv_iconst (v := 1) hx hb dX11_adds_101 rfl ?_
        refine lv_iadd hx hb dX11_adds_102 ?_
        refine lv_iload_n hx hb dX11_adds_103 rfl (lv_at hl 3 rfl) ?_
        obtain ⟨hi104, h⟩ := gv_of h
        refine as_M_17 (v0 := x3) X hP hS hi104 dX11_adds_104 (fun H locs hP hS => ?_)
        refine lv_aload_n hx hb dX11_adds_105 rfl (lv_at hl 0 rfl) ?_
        refine gf_X11_226_M_0 X hP dX11_adds_106 ?_
        refine lv_iload hx hb dX11_adds_109 (lv_at hl 5 rfl) ?_
        refine lv_iconst (v := 1) hx hb dX11_adds_111 rfl ?_
        refine lv_iadd hx hb dX11_adds_112 ?_
        refine lv_iconst (v := 2) hx hb dX11_adds_113 rfl ?_
        refine lv_iadd hx hb dX11_adds_114 ?_
        refine lv_iload hx hb dX11_adds_115 (lv_at hl 4 rfl) ?_
        obtain ⟨hi117, h⟩ := gv_of h
        refine as_M_17 (v0 := x4) X hP hS hi117 dX11_adds_117 (fun H locs hP hS => ?_)
        refine lv_aload_n hx hb dX11_adds_118 rfl (lv_at hl 0 rfl) ?_
        refine lv_dup hx hb dX11_adds_119 rfl ?_
        refine gf_X11_273_M_0 X hP dX11_adds_120 ?_
        refine lv_iconst (v := 1) hx hb dX11_adds_123 rfl ?_
        refine lv_iadd hx hb dX11_adds_124 ?_
        refine lv_topi (fun v2 ev2 => ?_)
        have h := lt_at ev2 h
        refine pf_X11_273_M_0 (v0 := v2) X hP hS dX11_adds_125 (fun H locs hP hS => ?_)
        exact ret h hP hS dX11_adds_128
      · have h := br_n c16 h
        refine lv_aload_n hx hb dX11_adds_19 rfl (lv_at hl 0 rfl) ?_
        refine gf_X11_226_M_0 X hP dX11_adds_20 ?_
        refine lv_iload hx hb dX11_adds_23 (lv_at hl 5 rfl) ?_
        refine lv_iload hx hb dX11_adds_25 (lv_at hl 6 rfl) ?_
        refine lv_iadd hx hb dX11_adds_27 ?_
        refine lv_iload hx hb dX11_adds_28 (lv_at hl 6 rfl) ?_
        refine lv_bipush (v := 10) hx hb dX11_adds_30 rfl ?_
        refine jx1 h (P := fun (v3 : Int32) => ∀ ls : Array Slot, lv_has ls 7 [(0, .ref (q 0)), (1, .int x1), (2, .int x2), (3, .int x3), (4, .int x4), (5, .int x5), (6, .int x6)] → W p l e rm_X11_adds s m args below meth c H locs 0 0 Q (F0 m 54 ls [.int v3, .int (x5 + x6), .ref (q 17)])) ?_ ?_
        · intro v3 h ls hl
          obtain ⟨hi54, h⟩ := gv_of h
          refine as_M_17 (v0 := v3) X hP hS hi54 dX11_adds_54 (fun H locs hP hS => ?_)
          obtain ⟨v4, ev4⟩ : ∃ z : Int32, z = (x6 + 1) := ⟨_, rfl⟩
          have h := lt_at ev4 h
          refine lv_iinc (v := v4) (lv' := [(6, .int v4), (0, .ref (q 0)), (1, .int x1), (2, .int x2), (3, .int x3), (4, .int x4), (5, .int x5)]) hx hb dX11_adds_55 hl (k := 6) rfl (by rw [ev4]; rfl) (by decide) rfl (fun ls hl => ?_)
          refine lv_goto (tgt := 12) hx hb dX11_adds_58 rfl ?_
          exact ih x1 x2 x3 x4 x5 v4 m_jobs (upd m_job ((x5 + x6)).toNatClampNeg v3) _ _ _ h hP hS (lv_sub hl [1, 2, 3, 4, 5, 6, 0] rfl)
        · intro J h
          refine lv_icmp_ge (tgt := 49) hx hb dX11_adds_32 rfl (fun c32 => ?_) (fun c32 => ?_)
          · refine lv_iconst (v := (-1)) hx hb dX11_adds_49 rfl ?_
            refine lv_goto (tgt := 54) hx hb dX11_adds_50 rfl ?_
            exact J _ (lt_ip c32 h) ls (lv_sub hl [0, 1, 2, 3, 4, 5, 6] rfl)
          · refine lv_iload hx hb dX11_adds_35 (lv_at hl 6 rfl) ?_
            refine lv_bipush (v := 6) hx hb dX11_adds_37 rfl ?_
            refine lv_icmp_eq (tgt := 49) hx hb dX11_adds_39 rfl (fun c39 => ?_) (fun c39 => ?_)
            · refine lv_iconst (v := (-1)) hx hb dX11_adds_49 rfl ?_
              refine lv_goto (tgt := 54) hx hb dX11_adds_50 rfl ?_
              exact J _ (lt_ip c39 (lt_in c32 h)) ls (lv_sub hl [0, 1, 2, 3, 4, 5, 6] rfl)
            · refine lv_iload hx hb dX11_adds_42 (lv_at hl 6 rfl) ?_
              refine lv_bipush (v := 7) hx hb dX11_adds_44 rfl ?_
              refine lv_icmp_ne (tgt := 53) hx hb dX11_adds_46 rfl (fun c46 => ?_) (fun c46 => ?_)
              · refine lv_iconst (v := 0) hx hb dX11_adds_53 rfl ?_
                exact J _ (lt_in c46 (lt_in c39 (lt_in c32 h))) ls (lv_sub hl [0, 1, 2, 3, 4, 5, 6] rfl)
              · refine lv_iconst (v := (-1)) hx hb dX11_adds_49 rfl ?_
                refine lv_goto (tgt := 54) hx hb dX11_adds_50 rfl ?_
                exact J _ (lt_ip c46 (lt_in c39 (lt_in c32 h))) ls (lv_sub hl [0, 1, 2, 3, 4, 5, 6] rfl)
  unfold f_X11_adds at h
  refine lv_bipush (v := 14) hx hb dX11_adds_0 rfl ?_
  refine lv_aload_n hx hb dX11_adds_2 rfl (lv_at hl 0 rfl) ?_
  refine gf_X11_273_M_0 X hP dX11_adds_3 ?_
  refine lv_imul hx hb dX11_adds_6 ?_
  refine lv_topi (fun v1 ev1 => ?_)
  have h := lt_at ev1 h
  refine lv_istore (lv' := [(5, .int v1), (0, .ref (q 0)), (1, .int p0), (2, .int p1), (3, .int p2), (4, .int p3)]) hx hb dX11_adds_7 hl (by decide) rfl (fun ls hl => ?_)
  refine lv_iconst (v := 0) hx hb dX11_adds_9 rfl ?_
  refine lv_istore (lv' := [(6, .int 0), (5, .int v1), (0, .ref (q 0)), (1, .int p0), (2, .int p1), (3, .int p2), (4, .int p3)]) hx hb dX11_adds_10 hl (by decide) rfl (fun ls hl => ?_)
  exact l12  FU p0 p1 p2 p3 v1 (0 : Int32) m_jobs m_job _ _ _ h hP hS (lv_sub hl [2, 3, 4, 5, 6, 1, 0] rfl)
abbrev rm_X11_job : Room := { frames := 3, cells := 0, slots := 0, locals := 76 }
set_option maxRecDepth 100000 in
set_option maxHeartbeats 4000000 in
theorem c_X11_job {g : gT} {l : Launch} {A : Nat → Prop} {q : Nat → Nat} {m_thrown : Int32} {m_length : Int32} {m_at : Int32} {m_fault : Int32} {m_toldWords : Int32} {m_orders : Int32} {m_value : Int32} {m_hasUnit : Bool} {m_places : Int32} {m_clocks : Int32} {m_held : Bool} {m_x : Int64} {m_y : Int64} {m_z : Int64} {m_first : Int64} {m_second : Int64} {m_aside : Int32} {m_jobs : Int32} {m_jobsImage : Int32} {m_clocksImage : Int32} {m_heldImage : Bool} {m_hasImage : Bool} {m_tape : Nat → Int32} {m_read : Nat → Int32} {m_order : Nat → Int32} {m_width : Nat → Int32} {m_guard : Nat → Int32} {m_points : Nat → Int32} {m_stages : Nat → Int32} {m_gain : Nat → Int32} {m_undo : Nat → Int32} {m_near : Nat → Bool} {m_quarter : Nat → Int64} {m_ln : Nat → Int64} {m_angle : Nat → Int64} {m_shift : Nat → Int32} {m_digit : Nat → Int32} {m_refused : Nat → Int32} {m_job : Nat → Int32} {m_jobKept : Nat → Int32} {m_result : Nat → Int32} {m_resultKept : Nat → Int32} {m_trace : Nat → Int64} {m_traceKept : Nat → Int64} {m_jobImage : Nat → Int32} {m_resultImage : Nat → Int32} {m_traceImage : Nat → Int64} {p0 : Int32} {p1 : Int32} {p2 : Int32} {p3 : Int32} {o : Int32 × Int32 × Int32 × (Nat → Int32) × (Nat → Int32)} (h : f_X11_job p0 p1 p2 p3 m_thrown m_hasUnit m_clocks m_jobs m_width m_refused m_job = some o) : Std g l yX11_job (.code yX11_job cX11_job 5 (some .int) :: gw) rm_X11_job A [.ref (q 0), .int p0, .int p1, .int p2, .int p3] (wM g q m_thrown m_length m_at m_fault m_toldWords m_orders m_value m_hasUnit m_places m_clocks m_held m_x m_y m_z m_first m_second m_aside m_jobs m_jobsImage m_clocksImage m_heldImage m_hasImage m_tape m_read m_order m_width m_guard m_points m_stages m_gain m_undo m_near m_quarter m_ln m_angle m_shift m_digit m_refused m_job m_jobKept m_result m_resultKept m_trace m_traceKept m_jobImage m_resultImage m_traceImage) (wM g q o.2.1 m_length m_at m_fault m_toldWords m_orders m_value m_hasUnit m_places m_clocks m_held m_x m_y m_z m_first m_second m_aside o.2.2.1 m_jobsImage m_clocksImage m_heldImage m_hasImage m_tape m_read m_order m_width m_guard m_points m_stages m_gain m_undo m_near m_quarter m_ln m_angle m_shift m_digit o.2.2.2.1 o.2.2.2.2 m_jobKept m_result m_resultKept m_trace m_traceKept m_jobImage m_resultImage m_traceImage) (some (.int o.1)) := by
  refine std_i (own := RX11) (by decide +kernel) rfl (Nat.le_of_ble_eq_true rfl) ?_
  intro p e s m args below meth c Q X ret H locs hP hS ls hl
  have hx := X.1
  have hb := X.2.1
  have hl : lv_has ls 5 [(0, .ref (q 0)), (1, .int p0), (2, .int p1), (3, .int p2), (4, .int p3)] := hl
  have ret : ∀ {H : Heap} {locs : List Loc} {pc : Nat} {ls : Array Slot} {v : Int32} {m_thrown : Int32} {m_jobs : Int32} {m_refused : Nat → Int32} {m_job : Nat → Int32}, some (v, m_thrown, m_jobs, m_refused, m_job) = some o → WP g A (wM g q m_thrown m_length m_at m_fault m_toldWords m_orders m_value m_hasUnit m_places m_clocks m_held m_x m_y m_z m_first m_second m_aside m_jobs m_jobsImage m_clocksImage m_heldImage m_hasImage m_tape m_read m_order m_width m_guard m_points m_stages m_gain m_undo m_near m_quarter m_ln m_angle m_shift m_digit m_refused m_job m_jobKept m_result m_resultKept m_trace m_traceKept m_jobImage m_resultImage m_traceImage) H → va_S A s.heap H locs → decode cX11_job pc = .ok (.ireturn, 1) → W p l e rm_X11_job s m args below meth c H locs 0 0 Q (F0 m pc ls [.int v]) := by
    intro H locs pc ls v m_thrown m_jobs m_refused m_job h hP hS hd
    cases h
    exact ret hP hS hd
  unfold f_X11_job at h
  refine lv_aload_n hx hb dX11_job_0 rfl (lv_at hl 0 rfl) ?_
  refine lv_iconst (v := 0) hx hb dX11_job_1 rfl ?_
  refine pf_X11_5_M_0 (v0 := (0 : Int32)) X hP hS dX11_job_2 (fun H locs hP hS => ?_)
  refine lv_aload_n hx hb dX11_job_5 rfl (lv_at hl 0 rfl) ?_
  refine lv_iload_n hx hb dX11_job_6 rfl (lv_at hl 1 rfl) ?_
  obtain ⟨o1, hco1, h⟩ := bd_of h
  refine kV (rest := []) X dX11_job_7 wd_6_195 mw_X11_isKind wd_6_197 wp_8_2 hP (k0 := 0) rfl rfl rfl hS (fun _ z => z) (c_X11_isKind hco1) rfl hl.1 rfl (Nat.le_of_ble_eq_true rfl) rfl rfl ⟨Nat.le_of_ble_eq_true rfl, Nat.le_of_ble_eq_true rfl⟩ (fun H locs hP _ _ hS => ?_)
  refine W.eq (g2 := F0 m 10 ls [.int (bI o1)]) rfl ?_
  refine rb_ne (tgt := 19) hx hb dX11_job_10 rfl (fun c10 => ?_) (fun c10 => ?_)
  · have h := br_p c10 h
    refine lv_aload_n hx hb dX11_job_19 rfl (lv_at hl 0 rfl) ?_
    refine lv_iconst (v := 0) hx hb dX11_job_20 rfl ?_
    refine lv_iload_n hx hb dX11_job_21 rfl (lv_at hl 1 rfl) ?_
    refine lv_iload_n hx hb dX11_job_22 rfl (lv_at hl 2 rfl) ?_
    refine lv_i2l hx hb dX11_job_23 rfl ?_
    refine lv_iload_n hx hb dX11_job_24 rfl (lv_at hl 3 rfl) ?_
    refine lv_i2l hx hb dX11_job_25 rfl ?_
    refine lv_iload hx hb dX11_job_26 (lv_at hl 4 rfl) ?_
    refine lv_i2l hx hb dX11_job_28 rfl ?_
    obtain ⟨o2, hco2, h⟩ := bd_of h
    refine kV (rest := []) X dX11_job_29 wd_6_204 mw_X11_isGood wd_6_206 wp_8_4 hP (k0 := 0) rfl rfl rfl hS (fun _ z => z) (c_X11_isGood hco2) rfl hl.1 rfl (Nat.le_of_ble_eq_true rfl) rfl rfl ⟨Nat.le_of_ble_eq_true rfl, Nat.le_of_ble_eq_true rfl⟩ (fun H locs hP _ _ hS => ?_)
    refine W.eq (g2 := F0 m 32 ls [.int (bI o2)]) rfl ?_
    refine rb_ne (tgt := 41) hx hb dX11_job_32 rfl (fun c32 => ?_) (fun c32 => ?_)
    · have h := br_p c32 h
      refine lv_aload_n hx hb dX11_job_41 rfl (lv_at hl 0 rfl) ?_
      refine gf_X11_273_M_0 X hP dX11_job_42 ?_
      refine lv_bipush (v := 60) hx hb dX11_job_45 rfl ?_
      refine lv_icmp_ne (tgt := 56) hx hb dX11_job_47 rfl (fun c47 => ?_) (fun c47 => ?_)
      · have h := br_n c47 h
        refine lv_aload_n hx hb dX11_job_56 rfl (lv_at hl 0 rfl) ?_
        refine lv_iload_n hx hb dX11_job_57 rfl (lv_at hl 1 rfl) ?_
        refine lv_iload_n hx hb dX11_job_58 rfl (lv_at hl 2 rfl) ?_
        refine lv_iload_n hx hb dX11_job_59 rfl (lv_at hl 3 rfl) ?_
        refine lv_iload hx hb dX11_job_60 (lv_at hl 4 rfl) ?_
        obtain ⟨o3, hco3, h⟩ := bd_of h
        refine kV (rest := []) X dX11_job_62 wd_7_54 mw_X11_adds wd_7_56 wp_8_15 hP (k0 := 0) rfl rfl rfl hS (fun _ z => z) (c_X11_adds hco3) rfl hl.1 rfl (Nat.le_of_ble_eq_true rfl) rfl rfl ⟨Nat.le_of_ble_eq_true rfl, Nat.le_of_ble_eq_true rfl⟩ (fun H locs hP _ _ hS => ?_)
        refine W.eq (g2 := F0 m 65 ls []) rfl ?_
        refine lv_aload_n hx hb dX11_job_65 rfl (lv_at hl 0 rfl) ?_
        refine gf_X11_273_M_0 X hP dX11_job_66 ?_
        refine lv_iconst (v := 1) hx hb dX11_job_69 rfl ?_
        refine lv_isub hx hb dX11_job_70 ?_
        exact ret h hP hS dX11_job_71
      · have h := br_p c47 h
        refine lv_aload_n hx hb dX11_job_50 rfl (lv_at hl 0 rfl) ?_
        refine lv_iconst (v := 2) hx hb dX11_job_51 rfl ?_
        obtain ⟨o4, hco4, h⟩ := bd_of h
        refine kV (rest := []) X dX11_job_52 wd_7_50 mw_X11_refuse wd_7_52 wp_8_14 hP (k0 := 0) rfl rfl rfl hS (fun _ z => z) (c_X11_refuse hco4) rfl hl.1 rfl (Nat.le_of_ble_eq_true rfl) rfl rfl ⟨Nat.le_of_ble_eq_true rfl, Nat.le_of_ble_eq_true rfl⟩ (fun H locs hP _ _ hS => ?_)
        refine W.eq (g2 := F0 m 55 ls [.int o4.1]) rfl ?_
        exact ret h hP hS dX11_job_55
    · have h := br_n c32 h
      refine lv_aload_n hx hb dX11_job_35 rfl (lv_at hl 0 rfl) ?_
      refine lv_iconst (v := 1) hx hb dX11_job_36 rfl ?_
      obtain ⟨o5, hco5, h⟩ := bd_of h
      refine kV (rest := []) X dX11_job_37 wd_7_50 mw_X11_refuse wd_7_52 wp_8_14 hP (k0 := 0) rfl rfl rfl hS (fun _ z => z) (c_X11_refuse hco5) rfl hl.1 rfl (Nat.le_of_ble_eq_true rfl) rfl rfl ⟨Nat.le_of_ble_eq_true rfl, Nat.le_of_ble_eq_true rfl⟩ (fun H locs hP _ _ hS => ?_)
      refine W.eq (g2 := F0 m 40 ls [.int o5.1]) rfl ?_
      exact ret h hP hS dX11_job_40
  · have h := br_n c10 h
    refine lv_aload_n hx hb dX11_job_13 rfl (lv_at hl 0 rfl) ?_
    refine lv_iconst (v := 0) hx hb dX11_job_14 rfl ?_
    obtain ⟨o6, hco6, h⟩ := bd_of h
    refine kV (rest := []) X dX11_job_15 wd_7_50 mw_X11_refuse wd_7_52 wp_8_14 hP (k0 := 0) rfl rfl rfl hS (fun _ z => z) (c_X11_refuse hco6) rfl hl.1 rfl (Nat.le_of_ble_eq_true rfl) rfl rfl ⟨Nat.le_of_ble_eq_true rfl, Nat.le_of_ble_eq_true rfl⟩ (fun H locs hP _ _ hS => ?_)
    refine W.eq (g2 := F0 m 18 ls [.int o6.1]) rfl ?_
    exact ret h hP hS dX11_job_18
abbrev rm_X11_isLinked : Room := { frames := 0, cells := 0, slots := 0, locals := 0 }
set_option maxRecDepth 100000 in
set_option maxHeartbeats 4000000 in
theorem c_X11_isLinked {g : gT} {l : Launch} {A : Nat → Prop} {q : Nat → Nat} {m_thrown : Int32} {m_length : Int32} {m_at : Int32} {m_fault : Int32} {m_toldWords : Int32} {m_orders : Int32} {m_value : Int32} {m_hasUnit : Bool} {m_places : Int32} {m_clocks : Int32} {m_held : Bool} {m_x : Int64} {m_y : Int64} {m_z : Int64} {m_first : Int64} {m_second : Int64} {m_aside : Int32} {m_jobs : Int32} {m_jobsImage : Int32} {m_clocksImage : Int32} {m_heldImage : Bool} {m_hasImage : Bool} {m_tape : Nat → Int32} {m_read : Nat → Int32} {m_order : Nat → Int32} {m_width : Nat → Int32} {m_guard : Nat → Int32} {m_points : Nat → Int32} {m_stages : Nat → Int32} {m_gain : Nat → Int32} {m_undo : Nat → Int32} {m_near : Nat → Bool} {m_quarter : Nat → Int64} {m_ln : Nat → Int64} {m_angle : Nat → Int64} {m_shift : Nat → Int32} {m_digit : Nat → Int32} {m_refused : Nat → Int32} {m_job : Nat → Int32} {m_jobKept : Nat → Int32} {m_result : Nat → Int32} {m_resultKept : Nat → Int32} {m_trace : Nat → Int64} {m_traceKept : Nat → Int64} {m_jobImage : Nat → Int32} {m_resultImage : Nat → Int32} {m_traceImage : Nat → Int64} {p0 : Int32} {o : Bool} (h : f_X11_isLinked p0 m_order = some o) : Std g l yX11_isLinked (.code yX11_isLinked cX11_isLinked 2 (some .boolean) :: gw) rm_X11_isLinked A [.ref (q 0), .int p0] (wM g q m_thrown m_length m_at m_fault m_toldWords m_orders m_value m_hasUnit m_places m_clocks m_held m_x m_y m_z m_first m_second m_aside m_jobs m_jobsImage m_clocksImage m_heldImage m_hasImage m_tape m_read m_order m_width m_guard m_points m_stages m_gain m_undo m_near m_quarter m_ln m_angle m_shift m_digit m_refused m_job m_jobKept m_result m_resultKept m_trace m_traceKept m_jobImage m_resultImage m_traceImage) (wM g q m_thrown m_length m_at m_fault m_toldWords m_orders m_value m_hasUnit m_places m_clocks m_held m_x m_y m_z m_first m_second m_aside m_jobs m_jobsImage m_clocksImage m_heldImage m_hasImage m_tape m_read m_order m_width m_guard m_points m_stages m_gain m_undo m_near m_quarter m_ln m_angle m_shift m_digit m_refused m_job m_jobKept m_result m_resultKept m_trace m_traceKept m_jobImage m_resultImage m_traceImage) (some (.int (bI o))) := by
  refine std_z (own := RX11) (by decide +kernel) rfl (Nat.le_of_ble_eq_true rfl) ?_
  intro p e s m args below meth c Q X ret H locs hP hS ls hl
  have hx := X.1
  have hb := X.2.1
  have hl : lv_has ls 2 [(0, .ref (q 0)), (1, .int p0)] := hl
  have ret : ∀ {H : Heap} {locs : List Loc} {pc : Nat} {ls : Array Slot} {v : Bool} , some (v) = some o → WP g A (wM g q m_thrown m_length m_at m_fault m_toldWords m_orders m_value m_hasUnit m_places m_clocks m_held m_x m_y m_z m_first m_second m_aside m_jobs m_jobsImage m_clocksImage m_heldImage m_hasImage m_tape m_read m_order m_width m_guard m_points m_stages m_gain m_undo m_near m_quarter m_ln m_angle m_shift m_digit m_refused m_job m_jobKept m_result m_resultKept m_trace m_traceKept m_jobImage m_resultImage m_traceImage) H → va_S A s.heap H locs → decode cX11_isLinked pc = .ok (.ireturn, 1) → W p l e rm_X11_isLinked s m args below meth c H locs 0 0 Q (F0 m pc ls [.int (bI v)]) := by
    intro H locs pc ls v h hP hS hd
    cases h
    exact ret hP hS hd
  have b37 : ∀  (H : Heap) (locs : List Loc) (ls : Array Slot), f_X11_isLinked_b37  m_order   = some o → WP g A (wM g q m_thrown m_length m_at m_fault m_toldWords m_orders m_value m_hasUnit m_places m_clocks m_held m_x m_y m_z m_first m_second m_aside m_jobs m_jobsImage m_clocksImage m_heldImage m_hasImage m_tape m_read m_order m_width m_guard m_points m_stages m_gain m_undo m_near m_quarter m_ln m_angle m_shift m_digit m_refused m_job m_jobKept m_result m_resultKept m_trace m_traceKept m_jobImage m_resultImage m_traceImage) H → va_S A s.heap H locs → lv_has ls 2 [] → W p l e rm_X11_isLinked s m args below meth c H locs 0 0 Q (F0 m 37 ls []) := by
    intro   H locs ls h hP hS hl
    unfold f_X11_isLinked_b37 at h
    refine lv_iconst (v := 1) hx hb dX11_isLinked_37 rfl ?_
    refine lv_goto (tgt := 42) hx hb dX11_isLinked_38 rfl ?_
    exact ret h hP hS dX11_isLinked_42
  unfold f_X11_isLinked at h
  refine lv_aload_n hx hb dX11_isLinked_0 rfl (lv_at hl 0 rfl) ?_
  refine gf_X11_126_M_0 X hP dX11_isLinked_1 ?_
  refine lv_iload_n hx hb dX11_isLinked_4 rfl (lv_at hl 1 rfl) ?_
  refine lv_iconst (v := 4) hx hb dX11_isLinked_5 rfl ?_
  refine lv_iadd hx hb dX11_isLinked_6 ?_
  obtain ⟨hi7, h⟩ := gv_of h
  refine al_M_3 X hP hi7 dX11_isLinked_7 ?_
  refine lv_iconst (v := (-1)) hx hb dX11_isLinked_8 rfl ?_
  refine lv_icmp_ne (tgt := 37) hx hb dX11_isLinked_9 rfl (fun c9 => ?_) (fun c9 => ?_)
  · have h := br_n c9 h
    exact b37    _ _ _ h hP hS (lv_sub hl [] rfl)
  · have h := br_p c9 h
    refine lv_aload_n hx hb dX11_isLinked_12 rfl (lv_at hl 0 rfl) ?_
    refine gf_X11_126_M_0 X hP dX11_isLinked_13 ?_
    refine lv_iload_n hx hb dX11_isLinked_16 rfl (lv_at hl 1 rfl) ?_
    refine lv_iconst (v := 5) hx hb dX11_isLinked_17 rfl ?_
    refine lv_iadd hx hb dX11_isLinked_18 ?_
    obtain ⟨hi19, h⟩ := gv_of h
    refine al_M_3 X hP hi19 dX11_isLinked_19 ?_
    refine lv_iconst (v := (-1)) hx hb dX11_isLinked_20 rfl ?_
    refine lv_icmp_ne (tgt := 37) hx hb dX11_isLinked_21 rfl (fun c21 => ?_) (fun c21 => ?_)
    · have h := br_n c21 h
      exact b37    _ _ _ h hP hS (lv_sub hl [] rfl)
    · have h := br_p c21 h
      refine lv_aload_n hx hb dX11_isLinked_24 rfl (lv_at hl 0 rfl) ?_
      refine gf_X11_126_M_0 X hP dX11_isLinked_25 ?_
      refine lv_iload_n hx hb dX11_isLinked_28 rfl (lv_at hl 1 rfl) ?_
      refine lv_bipush (v := 6) hx hb dX11_isLinked_29 rfl ?_
      refine lv_iadd hx hb dX11_isLinked_31 ?_
      obtain ⟨hi32, h⟩ := gv_of h
      refine al_M_3 X hP hi32 dX11_isLinked_32 ?_
      refine lv_iconst (v := (-1)) hx hb dX11_isLinked_33 rfl ?_
      refine jx1 h (P := fun (v1 : Bool) => ∀ ls : Array Slot, lv_has ls 2 [] → W p l e rm_X11_isLinked s m args below meth c H locs 0 0 Q (F0 m 42 ls [.int (bI v1)])) ?_ ?_
      · intro v1 h ls hl
        exact ret h hP hS dX11_isLinked_42
      · intro J h
        refine lv_icmp_eq (tgt := 41) hx hb dX11_isLinked_34 rfl (fun c34 => ?_) (fun c34 => ?_)
        · refine lv_iconst (v := 0) hx hb dX11_isLinked_41 rfl ?_
          exact J _ (lt_ip c34 h) ls (lv_sub hl [] rfl)
        · refine lv_iconst (v := 1) hx hb dX11_isLinked_37 rfl ?_
          refine lv_goto (tgt := 42) hx hb dX11_isLinked_38 rfl ?_
          exact J _ (lt_in c34 h) ls (lv_sub hl [] rfl)
abbrev rm_X11_areGood : Room := { frames := 3, cells := 0, slots := 0, locals := 76 }
set_option maxRecDepth 100000 in
set_option maxHeartbeats 4000000 in
theorem c_X11_areGood {g : gT} {l : Launch} {A : Nat → Prop} {q : Nat → Nat} {m_thrown : Int32} {m_length : Int32} {m_at : Int32} {m_fault : Int32} {m_toldWords : Int32} {m_orders : Int32} {m_value : Int32} {m_hasUnit : Bool} {m_places : Int32} {m_clocks : Int32} {m_held : Bool} {m_x : Int64} {m_y : Int64} {m_z : Int64} {m_first : Int64} {m_second : Int64} {m_aside : Int32} {m_jobs : Int32} {m_jobsImage : Int32} {m_clocksImage : Int32} {m_heldImage : Bool} {m_hasImage : Bool} {m_tape : Nat → Int32} {m_read : Nat → Int32} {m_order : Nat → Int32} {m_width : Nat → Int32} {m_guard : Nat → Int32} {m_points : Nat → Int32} {m_stages : Nat → Int32} {m_gain : Nat → Int32} {m_undo : Nat → Int32} {m_near : Nat → Bool} {m_quarter : Nat → Int64} {m_ln : Nat → Int64} {m_angle : Nat → Int64} {m_shift : Nat → Int32} {m_digit : Nat → Int32} {m_refused : Nat → Int32} {m_job : Nat → Int32} {m_jobKept : Nat → Int32} {m_result : Nat → Int32} {m_resultKept : Nat → Int32} {m_trace : Nat → Int64} {m_traceKept : Nat → Int64} {m_jobImage : Nat → Int32} {m_resultImage : Nat → Int32} {m_traceImage : Nat → Int64}  {o : Bool} (h : f_X11_areGood  m_orders m_order m_width = some o) : Std g l yX11_areGood (.code yX11_areGood cX11_areGood 3 (some .boolean) :: gw) rm_X11_areGood A [.ref (q 0)] (wM g q m_thrown m_length m_at m_fault m_toldWords m_orders m_value m_hasUnit m_places m_clocks m_held m_x m_y m_z m_first m_second m_aside m_jobs m_jobsImage m_clocksImage m_heldImage m_hasImage m_tape m_read m_order m_width m_guard m_points m_stages m_gain m_undo m_near m_quarter m_ln m_angle m_shift m_digit m_refused m_job m_jobKept m_result m_resultKept m_trace m_traceKept m_jobImage m_resultImage m_traceImage) (wM g q m_thrown m_length m_at m_fault m_toldWords m_orders m_value m_hasUnit m_places m_clocks m_held m_x m_y m_z m_first m_second m_aside m_jobs m_jobsImage m_clocksImage m_heldImage m_hasImage m_tape m_read m_order m_width m_guard m_points m_stages m_gain m_undo m_near m_quarter m_ln m_angle m_shift m_digit m_refused m_job m_jobKept m_result m_resultKept m_trace m_traceKept m_jobImage m_resultImage m_traceImage) (some (.int (bI o))) := by
  refine std_z (own := RX11) (by decide +kernel) rfl (Nat.le_of_ble_eq_true rfl) ?_
  intro p e s m args below meth c Q X ret H locs hP hS ls hl
  have hx := X.1
  have hb := X.2.1
  have hl : lv_has ls 3 [(0, .ref (q 0))] := hl
  have ret : ∀ {H : Heap} {locs : List Loc} {pc : Nat} {ls : Array Slot} {v : Bool} , some (v) = some o → WP g A (wM g q m_thrown m_length m_at m_fault m_toldWords m_orders m_value m_hasUnit m_places m_clocks m_held m_x m_y m_z m_first m_second m_aside m_jobs m_jobsImage m_clocksImage m_heldImage m_hasImage m_tape m_read m_order m_width m_guard m_points m_stages m_gain m_undo m_near m_quarter m_ln m_angle m_shift m_digit m_refused m_job m_jobKept m_result m_resultKept m_trace m_traceKept m_jobImage m_resultImage m_traceImage) H → va_S A s.heap H locs → decode cX11_areGood pc = .ok (.ireturn, 1) → W p l e rm_X11_areGood s m args below meth c H locs 0 0 Q (F0 m pc ls [.int (bI v)]) := by
    intro H locs pc ls v h hP hS hd
    cases h
    exact ret hP hS hd
  have b66 : ∀ (k2 : Int32 → Option (Bool)) (hk2 : ∀ (x1 : Int32) (H : Heap) (locs : List Loc) (ls : Array Slot), k2 x1 = some o → WP g A (wM g q m_thrown m_length m_at m_fault m_toldWords m_orders m_value m_hasUnit m_places m_clocks m_held m_x m_y m_z m_first m_second m_aside m_jobs m_jobsImage m_clocksImage m_heldImage m_hasImage m_tape m_read m_order m_width m_guard m_points m_stages m_gain m_undo m_near m_quarter m_ln m_angle m_shift m_digit m_refused m_job m_jobKept m_result m_resultKept m_trace m_traceKept m_jobImage m_resultImage m_traceImage) H → va_S A s.heap H locs → lv_has ls 3 [(0, .ref (q 0)), (1, .int x1)] → W p l e rm_X11_areGood s m args below meth c H locs 0 0 Q (F0 m 2 ls [])) , ∀ (x1 : Int32) (H : Heap) (locs : List Loc) (ls : Array Slot), f_X11_areGood_b66  m_orders m_order m_width k2 x1 = some o → WP g A (wM g q m_thrown m_length m_at m_fault m_toldWords m_orders m_value m_hasUnit m_places m_clocks m_held m_x m_y m_z m_first m_second m_aside m_jobs m_jobsImage m_clocksImage m_heldImage m_hasImage m_tape m_read m_order m_width m_guard m_points m_stages m_gain m_undo m_near m_quarter m_ln m_angle m_shift m_digit m_refused m_job m_jobKept m_result m_resultKept m_trace m_traceKept m_jobImage m_resultImage m_traceImage) H → va_S A s.heap H locs → lv_has ls 3 [(0, .ref (q 0)), (1, .int x1)] → W p l e rm_X11_areGood s m args below meth c H locs 0 0 Q (F0 m 66 ls []) := by
    intro k2 hk2 x1 H locs ls h hP hS hl
    unfold f_X11_areGood_b66 at h
    obtain ⟨v3, ev3⟩ : ∃ z : Int32, z = (x1 + 1) := ⟨_, rfl⟩
    have h := lt_at ev3 h
    refine lv_iinc (v := v3) (lv' := [(1, .int v3), (0, .ref (q 0))]) hx hb dX11_areGood_66 hl (k := 1) rfl (by rw [ev3]; rfl) (by decide) rfl (fun ls hl => ?_)
    refine lv_goto (tgt := 2) hx hb dX11_areGood_69 rfl ?_
    exact hk2 v3 _ _ _ h hP hS (lv_sub hl [1, 0] rfl)
  have l2 : ∀ (n : Nat), ∀ (x1 : Int32) (H : Heap) (locs : List Loc) (ls : Array Slot), f_X11_areGood_l2  m_orders m_order m_width  n x1 = some o → WP g A (wM g q m_thrown m_length m_at m_fault m_toldWords m_orders m_value m_hasUnit m_places m_clocks m_held m_x m_y m_z m_first m_second m_aside m_jobs m_jobsImage m_clocksImage m_heldImage m_hasImage m_tape m_read m_order m_width m_guard m_points m_stages m_gain m_undo m_near m_quarter m_ln m_angle m_shift m_digit m_refused m_job m_jobKept m_result m_resultKept m_trace m_traceKept m_jobImage m_resultImage m_traceImage) H → va_S A s.heap H locs → lv_has ls 3 [(0, .ref (q 0)), (1, .int x1)] → W p l e rm_X11_areGood s m args below meth c H locs 0 0 Q (F0 m 2 ls []) := by
    intro  n
    induction n with
    | zero =>
      intro x1 H locs ls h
      exact nz_of h
    | succ n ih =>
      intro x1 H locs ls h hP hS hl
      rw [f_X11_areGood_l2] at h
      refine lv_iload_n hx hb dX11_areGood_2 rfl (lv_at hl 1 rfl) ?_
      refine lv_aload_n hx hb dX11_areGood_3 rfl (lv_at hl 0 rfl) ?_
      refine gf_X11_123_M_0 X hP dX11_areGood_4 ?_
      refine lv_icmp_ge (tgt := 72) hx hb dX11_areGood_7 rfl (fun c7 => ?_) (fun c7 => ?_)
      · have h := br_p c7 h
        refine lv_iconst (v := 1) hx hb dX11_areGood_72 rfl ?_
        exact ret h hP hS dX11_areGood_73
      · have h := br_n c7 h
        refine lv_bipush (v := 7) hx hb dX11_areGood_10 rfl ?_
        refine lv_iload_n hx hb dX11_areGood_12 rfl (lv_at hl 1 rfl) ?_
        refine lv_imul hx hb dX11_areGood_13 ?_
        refine lv_topi (fun v1 ev1 => ?_)
        have h := lt_at ev1 h
        refine lv_istore_n (lv' := [(2, .int v1), (0, .ref (q 0)), (1, .int x1)]) hx hb dX11_areGood_14 rfl hl (by decide) rfl (fun ls hl => ?_)
        refine lv_aload_n hx hb dX11_areGood_15 rfl (lv_at hl 1 rfl) ?_
        refine lv_iload_n hx hb dX11_areGood_16 rfl (lv_at hl 0 rfl) ?_
        obtain ⟨o2, hco2, h⟩ := bd_of h
        refine kV (rest := []) X dX11_areGood_17 wd_7_66 mw_X11_isLinked wd_7_68 wp_9_1 hP (k0 := 0) rfl rfl rfl hS (fun _ z => z) (c_X11_isLinked hco2) rfl hl.1 rfl (Nat.le_of_ble_eq_true rfl) rfl rfl ⟨Nat.le_of_ble_eq_true rfl, Nat.le_of_ble_eq_true rfl⟩ (fun H locs hP _ _ hS => ?_)
        refine W.eq (g2 := F0 m 20 ls [.int (bI o2)]) rfl ?_
        refine rb_ne (tgt := 66) hx hb dX11_areGood_20 rfl (fun c20 => ?_) (fun c20 => ?_)
        · have h := br_p c20 h
          exact b66 (f_X11_areGood_l2  m_orders m_order m_width  n) ih  x1 _ _ _ h hP hS (lv_sub hl [1, 2] rfl)
        · have h := br_n c20 h
          refine lv_aload_n hx hb dX11_areGood_23 rfl (lv_at hl 1 rfl) ?_
          refine lv_iconst (v := 0) hx hb dX11_areGood_24 rfl ?_
          refine lv_aload_n hx hb dX11_areGood_25 rfl (lv_at hl 1 rfl) ?_
          refine gf_X11_126_M_0 X hP dX11_areGood_26 ?_
          refine lv_iload_n hx hb dX11_areGood_29 rfl (lv_at hl 0 rfl) ?_
          obtain ⟨hi30, h⟩ := gv_of h
          refine al_M_3 X hP hi30 dX11_areGood_30 ?_
          refine lv_aload_n hx hb dX11_areGood_31 rfl (lv_at hl 1 rfl) ?_
          refine gf_X11_126_M_0 X hP dX11_areGood_32 ?_
          refine lv_iload_n hx hb dX11_areGood_35 rfl (lv_at hl 0 rfl) ?_
          refine lv_iconst (v := 1) hx hb dX11_areGood_36 rfl ?_
          refine lv_iadd hx hb dX11_areGood_37 ?_
          obtain ⟨hi38, h⟩ := gv_of h
          refine al_M_3 X hP hi38 dX11_areGood_38 ?_
          refine lv_i2l hx hb dX11_areGood_39 rfl ?_
          refine lv_aload_n hx hb dX11_areGood_40 rfl (lv_at hl 1 rfl) ?_
          refine gf_X11_126_M_0 X hP dX11_areGood_41 ?_
          refine lv_iload_n hx hb dX11_areGood_44 rfl (lv_at hl 0 rfl) ?_
          refine lv_iconst (v := 2) hx hb dX11_areGood_45 rfl ?_
          refine lv_iadd hx hb dX11_areGood_46 ?_
          obtain ⟨hi47, h⟩ := gv_of h
          refine al_M_3 X hP hi47 dX11_areGood_47 ?_
          refine lv_i2l hx hb dX11_areGood_48 rfl ?_
          refine lv_aload_n hx hb dX11_areGood_49 rfl (lv_at hl 1 rfl) ?_
          refine gf_X11_126_M_0 X hP dX11_areGood_50 ?_
          refine lv_iload_n hx hb dX11_areGood_53 rfl (lv_at hl 0 rfl) ?_
          refine lv_iconst (v := 3) hx hb dX11_areGood_54 rfl ?_
          refine lv_iadd hx hb dX11_areGood_55 ?_
          obtain ⟨hi56, h⟩ := gv_of h
          refine al_M_3 X hP hi56 dX11_areGood_56 ?_
          refine lv_i2l hx hb dX11_areGood_57 rfl ?_
          obtain ⟨o4, hco4, h⟩ := bd_of h
          refine kV (rest := []) X dX11_areGood_58 wd_6_204 mw_X11_isGood wd_6_206 wp_8_4 hP (k0 := 0) rfl rfl rfl hS (fun _ z => z) (c_X11_isGood hco4) rfl hl.1 rfl (Nat.le_of_ble_eq_true rfl) rfl rfl ⟨Nat.le_of_ble_eq_true rfl, Nat.le_of_ble_eq_true rfl⟩ (fun H locs hP _ _ hS => ?_)
          refine W.eq (g2 := F0 m 61 ls [.int (bI o4)]) rfl ?_
          refine rb_ne (tgt := 66) hx hb dX11_areGood_61 rfl (fun c61 => ?_) (fun c61 => ?_)
          · have h := br_p c61 h
            exact b66 (f_X11_areGood_l2  m_orders m_order m_width  n) ih  x1 _ _ _ h hP hS (lv_sub hl [1, 2] rfl)
          · have h := br_n c61 h
            refine lv_iconst (v := 0) hx hb dX11_areGood_64 rfl ?_
            exact ret h hP hS dX11_areGood_65
  unfold f_X11_areGood at h
  refine lv_iconst (v := 0) hx hb dX11_areGood_0 rfl ?_
  refine lv_istore_n (lv' := [(1, .int 0), (0, .ref (q 0))]) hx hb dX11_areGood_1 rfl hl (by decide) rfl (fun ls hl => ?_)
  exact l2  FU (0 : Int32) _ _ _ h hP hS (lv_sub hl [1, 0] rfl)
abbrev rm_X11_orders : Room := { frames := 8, cells := 0, slots := 0, locals := 179 }
set_option maxRecDepth 100000 in
set_option maxHeartbeats 4000000 in
theorem c_X11_orders {g : gT} {l : Launch} {A : Nat → Prop} {q : Nat → Nat} {m_thrown : Int32} {m_length : Int32} {m_at : Int32} {m_fault : Int32} {m_toldWords : Int32} {m_orders : Int32} {m_value : Int32} {m_hasUnit : Bool} {m_places : Int32} {m_clocks : Int32} {m_held : Bool} {m_x : Int64} {m_y : Int64} {m_z : Int64} {m_first : Int64} {m_second : Int64} {m_aside : Int32} {m_jobs : Int32} {m_jobsImage : Int32} {m_clocksImage : Int32} {m_heldImage : Bool} {m_hasImage : Bool} {m_tape : Nat → Int32} {m_read : Nat → Int32} {m_order : Nat → Int32} {m_width : Nat → Int32} {m_guard : Nat → Int32} {m_points : Nat → Int32} {m_stages : Nat → Int32} {m_gain : Nat → Int32} {m_undo : Nat → Int32} {m_near : Nat → Bool} {m_quarter : Nat → Int64} {m_ln : Nat → Int64} {m_angle : Nat → Int64} {m_shift : Nat → Int32} {m_digit : Nat → Int32} {m_refused : Nat → Int32} {m_job : Nat → Int32} {m_jobKept : Nat → Int32} {m_result : Nat → Int32} {m_resultKept : Nat → Int32} {m_trace : Nat → Int64} {m_traceKept : Nat → Int64} {m_jobImage : Nat → Int32} {m_resultImage : Nat → Int32} {m_traceImage : Nat → Int64}  {o : Int32 × Int32 × Int32 × Int32 × Int32 × Int32 × Int32 × Int32 × (Nat → Int32) × (Nat → Int32) × (Nat → Int32)} (h : f_X11_orders  m_thrown m_length m_at m_fault m_orders m_value m_hasUnit m_clocks m_jobs m_tape m_order m_width m_refused m_job = some o) : Std g l yX11_orders (.code yX11_orders cX11_orders 5 (some .int) :: gw) rm_X11_orders A [.ref (q 0)] (wM g q m_thrown m_length m_at m_fault m_toldWords m_orders m_value m_hasUnit m_places m_clocks m_held m_x m_y m_z m_first m_second m_aside m_jobs m_jobsImage m_clocksImage m_heldImage m_hasImage m_tape m_read m_order m_width m_guard m_points m_stages m_gain m_undo m_near m_quarter m_ln m_angle m_shift m_digit m_refused m_job m_jobKept m_result m_resultKept m_trace m_traceKept m_jobImage m_resultImage m_traceImage) (wM g q o.2.1 o.2.2.1 o.2.2.2.1 o.2.2.2.2.1 m_toldWords o.2.2.2.2.2.1 o.2.2.2.2.2.2.1 m_hasUnit m_places m_clocks m_held m_x m_y m_z m_first m_second m_aside o.2.2.2.2.2.2.2.1 m_jobsImage m_clocksImage m_heldImage m_hasImage m_tape m_read o.2.2.2.2.2.2.2.2.1 m_width m_guard m_points m_stages m_gain m_undo m_near m_quarter m_ln m_angle m_shift m_digit o.2.2.2.2.2.2.2.2.2.1 o.2.2.2.2.2.2.2.2.2.2 m_jobKept m_result m_resultKept m_trace m_traceKept m_jobImage m_resultImage m_traceImage) (some (.int o.1)) := by
  refine std_i (own := RX11) (by decide +kernel) rfl (Nat.le_of_ble_eq_true rfl) ?_
  intro p e s m args below meth c Q X ret H locs hP hS ls hl
  have hx := X.1
  have hb := X.2.1
  have hl : lv_has ls 5 [(0, .ref (q 0))] := hl
  have ret : ∀ {H : Heap} {locs : List Loc} {pc : Nat} {ls : Array Slot} {v : Int32} {m_thrown : Int32} {m_length : Int32} {m_at : Int32} {m_fault : Int32} {m_orders : Int32} {m_value : Int32} {m_jobs : Int32} {m_order : Nat → Int32} {m_refused : Nat → Int32} {m_job : Nat → Int32}, some (v, m_thrown, m_length, m_at, m_fault, m_orders, m_value, m_jobs, m_order, m_refused, m_job) = some o → WP g A (wM g q m_thrown m_length m_at m_fault m_toldWords m_orders m_value m_hasUnit m_places m_clocks m_held m_x m_y m_z m_first m_second m_aside m_jobs m_jobsImage m_clocksImage m_heldImage m_hasImage m_tape m_read m_order m_width m_guard m_points m_stages m_gain m_undo m_near m_quarter m_ln m_angle m_shift m_digit m_refused m_job m_jobKept m_result m_resultKept m_trace m_traceKept m_jobImage m_resultImage m_traceImage) H → va_S A s.heap H locs → decode cX11_orders pc = .ok (.ireturn, 1) → W p l e rm_X11_orders s m args below meth c H locs 0 0 Q (F0 m pc ls [.int v]) := by
    intro H locs pc ls v m_thrown m_length m_at m_fault m_orders m_value m_jobs m_order m_refused m_job h hP hS hd
    cases h
    exact ret hP hS hd
  have b33 : ∀ (m_thrown : Int32) (m_length : Int32) (m_at : Int32) (m_fault : Int32) (m_orders : Int32) (m_value : Int32) (m_jobs : Int32) (m_order : Nat → Int32) (m_refused : Nat → Int32) (m_job : Nat → Int32) (H : Heap) (locs : List Loc) (ls : Array Slot), f_X11_orders_b33  m_hasUnit m_clocks m_tape m_width  m_thrown m_length m_at m_fault m_orders m_value m_jobs m_order m_refused m_job = some o → WP g A (wM g q m_thrown m_length m_at m_fault m_toldWords m_orders m_value m_hasUnit m_places m_clocks m_held m_x m_y m_z m_first m_second m_aside m_jobs m_jobsImage m_clocksImage m_heldImage m_hasImage m_tape m_read m_order m_width m_guard m_points m_stages m_gain m_undo m_near m_quarter m_ln m_angle m_shift m_digit m_refused m_job m_jobKept m_result m_resultKept m_trace m_traceKept m_jobImage m_resultImage m_traceImage) H → va_S A s.heap H locs → lv_has ls 5 [(0, .ref (q 0))] → W p l e rm_X11_orders s m args below meth c H locs 0 0 Q (F0 m 33 ls []) := by
    intro  m_thrown m_length m_at m_fault m_orders m_value m_jobs m_order m_refused m_job H locs ls h hP hS hl
    unfold f_X11_orders_b33 at h
    refine lv_aload_n hx hb dX11_orders_33 rfl (lv_at hl 0 rfl) ?_
    refine lv_iconst (v := 1) hx hb dX11_orders_34 rfl ?_
    obtain ⟨o2, hco2, h⟩ := bd_of h
    refine kV (rest := []) X dX11_orders_35 wd_7_50 mw_X11_refuse wd_7_52 wp_8_14 hP (k0 := 0) rfl rfl rfl hS (fun _ z => z) (c_X11_refuse hco2) rfl hl.1 rfl (Nat.le_of_ble_eq_true rfl) rfl rfl ⟨Nat.le_of_ble_eq_true rfl, Nat.le_of_ble_eq_true rfl⟩ (fun H locs hP _ _ hS => ?_)
    refine W.eq (g2 := F0 m 38 ls [.int o2.1]) rfl ?_
    exact ret h hP hS dX11_orders_38
  have b174 : ∀ (k71 : Int32 → Int32 → Int32 → Int32 → Int32 → Int32 → Int32 → Int32 → Int32 → (Nat → Int32) → (Nat → Int32) → (Nat → Int32) → Option (Int32 × Int32 × Int32 × Int32 × Int32 × Int32 × Int32 × Int32 × (Nat → Int32) × (Nat → Int32) × (Nat → Int32))) (hk71 : ∀ (x1 : Int32) (x2 : Int32) (m_thrown : Int32) (m_length : Int32) (m_at : Int32) (m_fault : Int32) (m_orders : Int32) (m_value : Int32) (m_jobs : Int32) (m_order : Nat → Int32) (m_refused : Nat → Int32) (m_job : Nat → Int32) (H : Heap) (locs : List Loc) (ls : Array Slot), k71 x1 x2 m_thrown m_length m_at m_fault m_orders m_value m_jobs m_order m_refused m_job = some o → WP g A (wM g q m_thrown m_length m_at m_fault m_toldWords m_orders m_value m_hasUnit m_places m_clocks m_held m_x m_y m_z m_first m_second m_aside m_jobs m_jobsImage m_clocksImage m_heldImage m_hasImage m_tape m_read m_order m_width m_guard m_points m_stages m_gain m_undo m_near m_quarter m_ln m_angle m_shift m_digit m_refused m_job m_jobKept m_result m_resultKept m_trace m_traceKept m_jobImage m_resultImage m_traceImage) H → va_S A s.heap H locs → lv_has ls 5 [(0, .ref (q 0)), (1, .int x1), (2, .int x2)] → W p l e rm_X11_orders s m args below meth c H locs 0 0 Q (F0 m 71 ls [])) (k121 : Int32 → Int32 → Int32 → Int32 → Int32 → Int32 → Int32 → Int32 → Int32 → Int32 → Int32 → (Nat → Int32) → (Nat → Int32) → (Nat → Int32) → Option (Int32 × Int32 × Int32 × Int32 × Int32 × Int32 × Int32 × Int32 × (Nat → Int32) × (Nat → Int32) × (Nat → Int32))) (hk121 : ∀ (x1 : Int32) (x2 : Int32) (x3 : Int32) (x4 : Int32) (m_thrown : Int32) (m_length : Int32) (m_at : Int32) (m_fault : Int32) (m_orders : Int32) (m_value : Int32) (m_jobs : Int32) (m_order : Nat → Int32) (m_refused : Nat → Int32) (m_job : Nat → Int32) (H : Heap) (locs : List Loc) (ls : Array Slot), k121 x1 x2 x3 x4 m_thrown m_length m_at m_fault m_orders m_value m_jobs m_order m_refused m_job = some o → WP g A (wM g q m_thrown m_length m_at m_fault m_toldWords m_orders m_value m_hasUnit m_places m_clocks m_held m_x m_y m_z m_first m_second m_aside m_jobs m_jobsImage m_clocksImage m_heldImage m_hasImage m_tape m_read m_order m_width m_guard m_points m_stages m_gain m_undo m_near m_quarter m_ln m_angle m_shift m_digit m_refused m_job m_jobKept m_result m_resultKept m_trace m_traceKept m_jobImage m_resultImage m_traceImage) H → va_S A s.heap H locs → lv_has ls 5 [(0, .ref (q 0)), (1, .int x1), (2, .int x2), (3, .int x3), (4, .int x4)] → W p l e rm_X11_orders s m args below meth c H locs 0 0 Q (F0 m 121 ls [])) , ∀ (x1 : Int32) (x2 : Int32) (x3 : Int32) (x4 : Int32) (m_thrown : Int32) (m_length : Int32) (m_at : Int32) (m_fault : Int32) (m_orders : Int32) (m_value : Int32) (m_jobs : Int32) (m_order : Nat → Int32) (m_refused : Nat → Int32) (m_job : Nat → Int32) (H : Heap) (locs : List Loc) (ls : Array Slot), f_X11_orders_b174  m_hasUnit m_clocks m_tape m_width k71 k121 x1 x2 x3 x4 m_thrown m_length m_at m_fault m_orders m_value m_jobs m_order m_refused m_job = some o → WP g A (wM g q m_thrown m_length m_at m_fault m_toldWords m_orders m_value m_hasUnit m_places m_clocks m_held m_x m_y m_z m_first m_second m_aside m_jobs m_jobsImage m_clocksImage m_heldImage m_hasImage m_tape m_read m_order m_width m_guard m_points m_stages m_gain m_undo m_near m_quarter m_ln m_angle m_shift m_digit m_refused m_job m_jobKept m_result m_resultKept m_trace m_traceKept m_jobImage m_resultImage m_traceImage) H → va_S A s.heap H locs → lv_has ls 5 [(0, .ref (q 0)), (1, .int x1), (2, .int x2), (3, .int x3), (4, .int x4)] → W p l e rm_X11_orders s m args below meth c H locs 0 0 Q (F0 m 174 ls []) := by
    intro k71 hk71 k121 hk121 x1 x2 x3 x4 m_thrown m_length m_at m_fault m_orders m_value m_jobs m_order m_refused m_job H locs ls h hP hS hl
    unfold f_X11_orders_b174 at h
    obtain ⟨v7, ev7⟩ : ∃ z : Int32, z = (x4 + 1) := ⟨_, rfl⟩
    have h := lt_at ev7 h
    refine lv_iinc (v := v7) (lv' := [(4, .int v7), (0, .ref (q 0)), (1, .int x1), (2, .int x2), (3, .int x3)]) hx hb dX11_orders_174 hl (k := 4) rfl (by rw [ev7]; rfl) (by decide) rfl (fun ls hl => ?_)
    refine lv_goto (tgt := 121) hx hb dX11_orders_177 rfl ?_
    exact hk121 x1 x2 x3 v7 m_thrown m_length m_at m_fault m_orders m_value m_jobs m_order m_refused m_job _ _ _ h hP hS (lv_sub hl [1, 2, 3, 4, 0] rfl)
  have l121 : ∀ (k71 : Int32 → Int32 → Int32 → Int32 → Int32 → Int32 → Int32 → Int32 → Int32 → (Nat → Int32) → (Nat → Int32) → (Nat → Int32) → Option (Int32 × Int32 × Int32 × Int32 × Int32 × Int32 × Int32 × Int32 × (Nat → Int32) × (Nat → Int32) × (Nat → Int32))) (hk71 : ∀ (x1 : Int32) (x2 : Int32) (m_thrown : Int32) (m_length : Int32) (m_at : Int32) (m_fault : Int32) (m_orders : Int32) (m_value : Int32) (m_jobs : Int32) (m_order : Nat → Int32) (m_refused : Nat → Int32) (m_job : Nat → Int32) (H : Heap) (locs : List Loc) (ls : Array Slot), k71 x1 x2 m_thrown m_length m_at m_fault m_orders m_value m_jobs m_order m_refused m_job = some o → WP g A (wM g q m_thrown m_length m_at m_fault m_toldWords m_orders m_value m_hasUnit m_places m_clocks m_held m_x m_y m_z m_first m_second m_aside m_jobs m_jobsImage m_clocksImage m_heldImage m_hasImage m_tape m_read m_order m_width m_guard m_points m_stages m_gain m_undo m_near m_quarter m_ln m_angle m_shift m_digit m_refused m_job m_jobKept m_result m_resultKept m_trace m_traceKept m_jobImage m_resultImage m_traceImage) H → va_S A s.heap H locs → lv_has ls 5 [(0, .ref (q 0)), (1, .int x1), (2, .int x2)] → W p l e rm_X11_orders s m args below meth c H locs 0 0 Q (F0 m 71 ls [])) (n : Nat), ∀ (x1 : Int32) (x2 : Int32) (x3 : Int32) (x4 : Int32) (m_thrown : Int32) (m_length : Int32) (m_at : Int32) (m_fault : Int32) (m_orders : Int32) (m_value : Int32) (m_jobs : Int32) (m_order : Nat → Int32) (m_refused : Nat → Int32) (m_job : Nat → Int32) (H : Heap) (locs : List Loc) (ls : Array Slot), f_X11_orders_l121  m_hasUnit m_clocks m_tape m_width k71 n x1 x2 x3 x4 m_thrown m_length m_at m_fault m_orders m_value m_jobs m_order m_refused m_job = some o → WP g A (wM g q m_thrown m_length m_at m_fault m_toldWords m_orders m_value m_hasUnit m_places m_clocks m_held m_x m_y m_z m_first m_second m_aside m_jobs m_jobsImage m_clocksImage m_heldImage m_hasImage m_tape m_read m_order m_width m_guard m_points m_stages m_gain m_undo m_near m_quarter m_ln m_angle m_shift m_digit m_refused m_job m_jobKept m_result m_resultKept m_trace m_traceKept m_jobImage m_resultImage m_traceImage) H → va_S A s.heap H locs → lv_has ls 5 [(0, .ref (q 0)), (1, .int x1), (2, .int x2), (3, .int x3), (4, .int x4)] → W p l e rm_X11_orders s m args below meth c H locs 0 0 Q (F0 m 121 ls []) := by
    intro k71 hk71 n
    induction n with
    | zero =>
      intro x1 x2 x3 x4 m_thrown m_length m_at m_fault m_orders m_value m_jobs m_order m_refused m_job H locs ls h
      exact nz_of h
    | succ n ih =>
      intro x1 x2 x3 x4 m_thrown m_length m_at m_fault m_orders m_value m_jobs m_order m_refused m_job H locs ls h hP hS hl
      rw [f_X11_orders_l121] at h
      refine lv_iload hx hb dX11_orders_121 (lv_at hl 4 rfl) ?_
      refine lv_iconst (v := 3) hx hb dX11_orders_123 rfl ?_
      refine lv_icmp_ge (tgt := 180) hx hb dX11_orders_124 rfl (fun c124 => ?_) (fun c124 => ?_)
      · have h := br_p c124 h
        obtain ⟨v6, ev6⟩ : ∃ z : Int32, z = (x2 + 1) := ⟨_, rfl⟩
        have h := lt_at ev6 h
        refine lv_iinc (v := v6) (lv' := [(2, .int v6), (0, .ref (q 0)), (1, .int x1), (3, .int x3), (4, .int x4)]) hx hb dX11_orders_180 hl (k := 2) rfl (by rw [ev6]; rfl) (by decide) rfl (fun ls hl => ?_)
        refine lv_goto (tgt := 71) hx hb dX11_orders_183 rfl ?_
        exact hk71 x1 v6 m_thrown m_length m_at m_fault m_orders m_value m_jobs m_order m_refused m_job _ _ _ h hP hS (lv_sub hl [1, 2, 0] rfl)
      · have h := br_n c124 h
        refine lv_aload_n hx hb dX11_orders_127 rfl (lv_at hl 0 rfl) ?_
        refine gf_X11_126_M_0 X hP dX11_orders_128 ?_
        refine lv_iload_n hx hb dX11_orders_131 rfl (lv_at hl 3 rfl) ?_
        refine lv_iconst (v := 4) hx hb dX11_orders_132 rfl ?_
        refine lv_iadd hx hb dX11_orders_133 ?_
        refine lv_iload hx hb dX11_orders_134 (lv_at hl 4 rfl) ?_
        refine lv_iadd hx hb dX11_orders_136 ?_
        obtain ⟨hi137, h⟩ := gv_of h
        refine al_M_3 X hP hi137 dX11_orders_137 ?_
        refine lv_iconst (v := (-1)) hx hb dX11_orders_138 rfl ?_
        refine lv_icmp_eq (tgt := 174) hx hb dX11_orders_139 rfl (fun c139 => ?_) (fun c139 => ?_)
        · have h := br_p c139 h
          exact b174 k71 hk71 (f_X11_orders_l121  m_hasUnit m_clocks m_tape m_width k71 n) ih  x1 x2 x3 x4 m_thrown m_length m_at m_fault m_orders m_value m_jobs m_order m_refused m_job _ _ _ h hP hS (lv_sub hl [0, 1, 2, 3, 4] rfl)
        · have h := br_n c139 h
          refine lv_aload_n hx hb dX11_orders_142 rfl (lv_at hl 0 rfl) ?_
          refine gf_X11_226_M_0 X hP dX11_orders_143 ?_
          refine lv_bipush (v := 14) hx hb dX11_orders_146 rfl ?_
          refine lv_iload_n hx hb dX11_orders_148 rfl (lv_at hl 1 rfl) ?_
          refine lv_iload_n hx hb dX11_orders_149 rfl (lv_at hl 2 rfl) ?_
          refine lv_iadd hx hb dX11_orders_150 ?_
          refine lv_imul hx hb dX11_orders_151 ?_
          refine lv_bipush (v := 10) hx hb dX11_orders_152 rfl ?_
          refine lv_iadd hx hb dX11_orders_154 ?_
          refine lv_iload hx hb dX11_orders_155 (lv_at hl 4 rfl) ?_
          refine lv_iadd hx hb dX11_orders_157 ?_
          refine lv_aload_n hx hb dX11_orders_158 rfl (lv_at hl 0 rfl) ?_
          refine gf_X11_126_M_0 X hP dX11_orders_159 ?_
          refine lv_iload_n hx hb dX11_orders_162 rfl (lv_at hl 3 rfl) ?_
          refine lv_iconst (v := 4) hx hb dX11_orders_163 rfl ?_
          refine lv_iadd hx hb dX11_orders_164 ?_
          refine lv_iload hx hb dX11_orders_165 (lv_at hl 4 rfl) ?_
          refine lv_iadd hx hb dX11_orders_167 ?_
          obtain ⟨hi168, h⟩ := gv_of h
          refine al_M_3 X hP hi168 dX11_orders_168 ?_
          refine lv_iconst (v := 2) hx hb dX11_orders_169 rfl ?_
          refine lv_iload_n hx hb dX11_orders_170 rfl (lv_at hl 1 rfl) ?_
          refine lv_imul hx hb dX11_orders_171 ?_
          refine lv_iadd hx hb dX11_orders_172 ?_
          refine lv_topi (fun v8 ev8 => ?_)
          have h := lt_at ev8 h
          obtain ⟨hi173, h⟩ := gv_of h
          refine as_M_17 (v0 := v8) X hP hS hi173 dX11_orders_173 (fun H locs hP hS => ?_)
          exact b174 k71 hk71 (f_X11_orders_l121  m_hasUnit m_clocks m_tape m_width k71 n) ih  x1 x2 x3 x4 m_thrown m_length m_at m_fault m_orders m_value m_jobs m_order m_refused (upd m_job (((((14 : Int32) * (x1 + x2)) + (10 : Int32)) + x4)).toNatClampNeg v8) _ _ _ h hP hS (lv_sub hl [0, 1, 2, 3, 4] rfl)
  have l71 : ∀ (n : Nat), ∀ (x1 : Int32) (x2 : Int32) (m_thrown : Int32) (m_length : Int32) (m_at : Int32) (m_fault : Int32) (m_orders : Int32) (m_value : Int32) (m_jobs : Int32) (m_order : Nat → Int32) (m_refused : Nat → Int32) (m_job : Nat → Int32) (H : Heap) (locs : List Loc) (ls : Array Slot), f_X11_orders_l71  m_hasUnit m_clocks m_tape m_width  n x1 x2 m_thrown m_length m_at m_fault m_orders m_value m_jobs m_order m_refused m_job = some o → WP g A (wM g q m_thrown m_length m_at m_fault m_toldWords m_orders m_value m_hasUnit m_places m_clocks m_held m_x m_y m_z m_first m_second m_aside m_jobs m_jobsImage m_clocksImage m_heldImage m_hasImage m_tape m_read m_order m_width m_guard m_points m_stages m_gain m_undo m_near m_quarter m_ln m_angle m_shift m_digit m_refused m_job m_jobKept m_result m_resultKept m_trace m_traceKept m_jobImage m_resultImage m_traceImage) H → va_S A s.heap H locs → lv_has ls 5 [(0, .ref (q 0)), (1, .int x1), (2, .int x2)] → W p l e rm_X11_orders s m args below meth c H locs 0 0 Q (F0 m 71 ls []) := by
    intro  n
    induction n with
    | zero =>
      intro x1 x2 m_thrown m_length m_at m_fault m_orders m_value m_jobs m_order m_refused m_job H locs ls h
      exact nz_of h
    | succ n ih =>
      intro x1 x2 m_thrown m_length m_at m_fault m_orders m_value m_jobs m_order m_refused m_job H locs ls h hP hS hl
      rw [f_X11_orders_l71] at h
      refine lv_iload_n hx hb dX11_orders_71 rfl (lv_at hl 2 rfl) ?_
      refine lv_aload_n hx hb dX11_orders_72 rfl (lv_at hl 0 rfl) ?_
      refine gf_X11_123_M_0 X hP dX11_orders_73 ?_
      refine lv_icmp_ge (tgt := 186) hx hb dX11_orders_76 rfl (fun c76 => ?_) (fun c76 => ?_)
      · have h := br_p c76 h
        refine lv_aload_n hx hb dX11_orders_186 rfl (lv_at hl 0 rfl) ?_
        refine gf_X11_123_M_0 X hP dX11_orders_187 ?_
        exact ret h hP hS dX11_orders_190
      · have h := br_n c76 h
        refine lv_bipush (v := 7) hx hb dX11_orders_79 rfl ?_
        refine lv_iload_n hx hb dX11_orders_81 rfl (lv_at hl 2 rfl) ?_
        refine lv_imul hx hb dX11_orders_82 ?_
        refine lv_topi (fun v4 ev4 => ?_)
        have h := lt_at ev4 h
        refine lv_istore_n (lv' := [(3, .int v4), (0, .ref (q 0)), (1, .int x1), (2, .int x2)]) hx hb dX11_orders_83 rfl hl (by decide) rfl (fun ls hl => ?_)
        refine lv_aload_n hx hb dX11_orders_84 rfl (lv_at hl 1 rfl) ?_
        refine lv_aload_n hx hb dX11_orders_85 rfl (lv_at hl 1 rfl) ?_
        refine gf_X11_126_M_0 X hP dX11_orders_86 ?_
        refine lv_iload_n hx hb dX11_orders_89 rfl (lv_at hl 0 rfl) ?_
        obtain ⟨hi90, h⟩ := gv_of h
        refine al_M_3 X hP hi90 dX11_orders_90 ?_
        refine lv_aload_n hx hb dX11_orders_91 rfl (lv_at hl 1 rfl) ?_
        refine gf_X11_126_M_0 X hP dX11_orders_92 ?_
        refine lv_iload_n hx hb dX11_orders_95 rfl (lv_at hl 0 rfl) ?_
        refine lv_iconst (v := 1) hx hb dX11_orders_96 rfl ?_
        refine lv_iadd hx hb dX11_orders_97 ?_
        obtain ⟨hi98, h⟩ := gv_of h
        refine al_M_3 X hP hi98 dX11_orders_98 ?_
        refine lv_aload_n hx hb dX11_orders_99 rfl (lv_at hl 1 rfl) ?_
        refine gf_X11_126_M_0 X hP dX11_orders_100 ?_
        refine lv_iload_n hx hb dX11_orders_103 rfl (lv_at hl 0 rfl) ?_
        refine lv_iconst (v := 2) hx hb dX11_orders_104 rfl ?_
        refine lv_iadd hx hb dX11_orders_105 ?_
        obtain ⟨hi106, h⟩ := gv_of h
        refine al_M_3 X hP hi106 dX11_orders_106 ?_
        refine lv_aload_n hx hb dX11_orders_107 rfl (lv_at hl 1 rfl) ?_
        refine gf_X11_126_M_0 X hP dX11_orders_108 ?_
        refine lv_iload_n hx hb dX11_orders_111 rfl (lv_at hl 0 rfl) ?_
        refine lv_iconst (v := 3) hx hb dX11_orders_112 rfl ?_
        refine lv_iadd hx hb dX11_orders_113 ?_
        obtain ⟨hi114, h⟩ := gv_of h
        refine al_M_3 X hP hi114 dX11_orders_114 ?_
        obtain ⟨o5, hco5, h⟩ := bd_of h
        refine kV (rest := []) X dX11_orders_115 wd_7_54 mw_X11_adds wd_7_56 wp_8_15 hP (k0 := 0) rfl rfl rfl hS (fun _ z => z) (c_X11_adds hco5) rfl hl.1 rfl (Nat.le_of_ble_eq_true rfl) rfl rfl ⟨Nat.le_of_ble_eq_true rfl, Nat.le_of_ble_eq_true rfl⟩ (fun H locs hP _ _ hS => ?_)
        refine W.eq (g2 := F0 m 118 ls []) rfl ?_
        refine lv_iconst (v := 0) hx hb dX11_orders_118 rfl ?_
        refine lv_istore (lv' := [(4, .int 0), (3, .int v4), (0, .ref (q 0)), (1, .int x1), (2, .int x2)]) hx hb dX11_orders_119 hl (by decide) rfl (fun ls hl => ?_)
        exact l121 (f_X11_orders_l71  m_hasUnit m_clocks m_tape m_width  n) ih FU x1 x2 v4 (0 : Int32) m_thrown m_length m_at m_fault m_orders m_value o5.1 m_order m_refused o5.2 _ _ _ h hP hS (lv_sub hl [2, 3, 4, 1, 0] rfl)
  unfold f_X11_orders at h
  refine lv_aload_n hx hb dX11_orders_0 rfl (lv_at hl 0 rfl) ?_
  refine lv_iconst (v := 0) hx hb dX11_orders_1 rfl ?_
  refine pf_X11_5_M_0 (v0 := (0 : Int32)) X hP hS dX11_orders_2 (fun H locs hP hS => ?_)
  refine lv_aload_n hx hb dX11_orders_5 rfl (lv_at hl 0 rfl) ?_
  refine gf_X11_260_M_0 X hP dX11_orders_6 ?_
  refine rb_ne (tgt := 18) hx hb dX11_orders_9 rfl (fun c9 => ?_) (fun c9 => ?_)
  · have h := br_p c9 h
    refine lv_aload_n hx hb dX11_orders_18 rfl (lv_at hl 0 rfl) ?_
    obtain ⟨o1, hco1, h⟩ := bd_of h
    refine kV (rest := []) X dX11_orders_19 wd_5_156 mw_X11_readsOrders wd_5_158 wp_7_2 hP (k0 := 0) rfl rfl rfl hS (fun _ z => z) (c_X11_readsOrders hco1) rfl hl.1 rfl (Nat.le_of_ble_eq_true rfl) rfl rfl ⟨Nat.le_of_ble_eq_true rfl, Nat.le_of_ble_eq_true rfl⟩ (fun H locs hP _ _ hS => ?_)
    refine W.eq (g2 := F0 m 22 ls [.int o1.1]) rfl ?_
    refine lv_iconst (v := (-1)) hx hb dX11_orders_22 rfl ?_
    refine lv_icmp_ne (tgt := 33) hx hb dX11_orders_23 rfl (fun c23 => ?_) (fun c23 => ?_)
    · have h := br_n c23 h
      exact b33   (0 : Int32) m_length o1.2.1 o1.2.2.1 o1.2.2.2.1 o1.2.2.2.2.1 m_jobs o1.2.2.2.2.2 m_refused m_job _ _ _ h hP hS (lv_sub hl [0] rfl)
    · have h := br_p c23 h
      refine lv_aload_n hx hb dX11_orders_26 rfl (lv_at hl 0 rfl) ?_
      obtain ⟨o3, hco3, h⟩ := bd_of h
      refine kV (rest := []) X dX11_orders_27 wd_7_62 mw_X11_areGood wd_7_64 wp_9_0 hP (k0 := 0) rfl rfl rfl hS (fun _ z => z) (c_X11_areGood hco3) rfl hl.1 rfl (Nat.le_of_ble_eq_true rfl) rfl rfl ⟨Nat.le_of_ble_eq_true rfl, Nat.le_of_ble_eq_true rfl⟩ (fun H locs hP _ _ hS => ?_)
      refine W.eq (g2 := F0 m 30 ls [.int (bI o3)]) rfl ?_
      refine rb_ne (tgt := 39) hx hb dX11_orders_30 rfl (fun c30 => ?_) (fun c30 => ?_)
      · have h := br_p c30 h
        refine lv_aload_n hx hb dX11_orders_39 rfl (lv_at hl 0 rfl) ?_
        refine gf_X11_273_M_0 X hP dX11_orders_40 ?_
        refine lv_aload_n hx hb dX11_orders_43 rfl (lv_at hl 0 rfl) ?_
        refine gf_X11_123_M_0 X hP dX11_orders_44 ?_
        refine lv_iadd hx hb dX11_orders_47 ?_
        refine lv_bipush (v := 60) hx hb dX11_orders_48 rfl ?_
        refine lv_icmp_le (tgt := 59) hx hb dX11_orders_50 rfl (fun c50 => ?_) (fun c50 => ?_)
        · have h := br_p c50 h
          refine lv_aload_n hx hb dX11_orders_59 rfl (lv_at hl 0 rfl) ?_
          refine lv_iconst (v := 0) hx hb dX11_orders_60 rfl ?_
          refine pf_X11_13_M_0 (v0 := (0 : Int32)) X hP hS dX11_orders_61 (fun H locs hP hS => ?_)
          refine lv_aload_n hx hb dX11_orders_64 rfl (lv_at hl 0 rfl) ?_
          refine gf_X11_273_M_0 X hP dX11_orders_65 ?_
          refine lv_istore_n (lv' := [(1, .int m_jobs), (0, .ref (q 0))]) hx hb dX11_orders_68 rfl hl (by decide) rfl (fun ls hl => ?_)
          refine lv_iconst (v := 0) hx hb dX11_orders_69 rfl ?_
          refine lv_istore_n (lv' := [(2, .int 0), (1, .int m_jobs), (0, .ref (q 0))]) hx hb dX11_orders_70 rfl hl (by decide) rfl (fun ls hl => ?_)
          exact l71  FU m_jobs (0 : Int32) (0 : Int32) (0 : Int32) o1.2.1 o1.2.2.1 o1.2.2.2.1 o1.2.2.2.2.1 m_jobs o1.2.2.2.2.2 m_refused m_job _ _ _ h hP hS (lv_sub hl [2, 1, 0] rfl)
        · have h := br_n c50 h
          refine lv_aload_n hx hb dX11_orders_53 rfl (lv_at hl 0 rfl) ?_
          refine lv_iconst (v := 2) hx hb dX11_orders_54 rfl ?_
          obtain ⟨o9, hco9, h⟩ := bd_of h
          refine kV (rest := []) X dX11_orders_55 wd_7_50 mw_X11_refuse wd_7_52 wp_8_14 hP (k0 := 0) rfl rfl rfl hS (fun _ z => z) (c_X11_refuse hco9) rfl hl.1 rfl (Nat.le_of_ble_eq_true rfl) rfl rfl ⟨Nat.le_of_ble_eq_true rfl, Nat.le_of_ble_eq_true rfl⟩ (fun H locs hP _ _ hS => ?_)
          refine W.eq (g2 := F0 m 58 ls [.int o9.1]) rfl ?_
          exact ret h hP hS dX11_orders_58
      · have h := br_n c30 h
        exact b33   (0 : Int32) m_length o1.2.1 o1.2.2.1 o1.2.2.2.1 o1.2.2.2.2.1 m_jobs o1.2.2.2.2.2 m_refused m_job _ _ _ h hP hS (lv_sub hl [0] rfl)
  · have h := br_n c9 h
    refine lv_aload_n hx hb dX11_orders_12 rfl (lv_at hl 0 rfl) ?_
    refine lv_iconst (v := 0) hx hb dX11_orders_13 rfl ?_
    obtain ⟨o10, hco10, h⟩ := bd_of h
    refine kV (rest := []) X dX11_orders_14 wd_7_50 mw_X11_refuse wd_7_52 wp_8_14 hP (k0 := 0) rfl rfl rfl hS (fun _ z => z) (c_X11_refuse hco10) rfl hl.1 rfl (Nat.le_of_ble_eq_true rfl) rfl rfl ⟨Nat.le_of_ble_eq_true rfl, Nat.le_of_ble_eq_true rfl⟩ (fun H locs hP _ _ hS => ?_)
    refine W.eq (g2 := F0 m 17 ls [.int o10.1]) rfl ?_
    exact ret h hP hS dX11_orders_17
