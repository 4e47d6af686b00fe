abbrev rm_X7_finish : Room := { frames := 2, cells := 0, slots := 0, locals := 50 }
set_option maxRecDepth 100000 in
set_option maxHeartbeats 4000000 in
theorem c_X7_finish {g : gT} {l : Launch} {A : Nat → Prop} {a0 a1 a2 a3 a4 a5 a6 : Nat} {r_x : Int64} {r_y : Int64} {r_z : Int64} {r_upBits : Int32} {r_steps : Int32} {r_first : Int64} {r_second : Int64} {u_width : Int32} {u_guard : Int32} {u_bits : Int32} {u_stages : Int32} {u_places : Int32} {u_near : Bool} {u_quarter : Int64} {u_eighth : Int64} {u_ln : Int64} {u_shifts : Nat → Int32} {u_angles : Nat → Int64} {u_gains : Nat → Int64} {u_undos : Nat → Int64} {u_digits : Nat → Int32} {p0 : Int32} {o : Int64 × Int64} (h : f_X7_finish p0 r_x r_y r_z r_steps r_first r_second u_guard u_bits u_near u_ln u_digits = some o) : Std g l yX7_finish (.code yX7_finish cX7_finish 2 none :: gw) rm_X7_finish A [.ref a0, .int p0] (wTurner g a0 a1 a2 a3 a4 a5 a6 r_x r_y r_z r_upBits r_steps r_first r_second u_width u_guard u_bits u_stages u_places u_near u_quarter u_eighth u_ln u_shifts u_angles u_gains u_undos u_digits) (wTurner g a0 a1 a2 a3 a4 a5 a6 r_x r_y r_z r_upBits r_steps o.1 o.2 u_width u_guard u_bits u_stages u_places u_near u_quarter u_eighth u_ln u_shifts u_angles u_gains u_undos u_digits) none := by
  refine std_v (own := RX7) (by decide +kernel) rfl (Nat.le_of_ble_eq_true rfl) ?_
  intro p e s m args below meth c Q X ret H locs hP hS ls hl
  have hx := X.1
  have hb := X.2.1
  have hl : lv_has ls 2 [(0, .ref a0), (1, .int p0)] := hl
  have ret : ∀ {H : Heap} {locs : List Loc} {pc : Nat} {ls : Array Slot} {r_first : Int64} {r_second : Int64}, some (r_first, r_second) = some o → WP g A (wTurner g a0 a1 a2 a3 a4 a5 a6 r_x r_y r_z r_upBits r_steps r_first r_second u_width u_guard u_bits u_stages u_places u_near u_quarter u_eighth u_ln u_shifts u_angles u_gains u_undos u_digits) H → va_S A s.heap H locs → decode cX7_finish pc = .ok (.return_, 1) → W p l e rm_X7_finish s m args below meth c H locs 0 0 Q (F0 m pc ls []) := by
    intro H locs pc ls r_first r_second h hP hS hd
    cases h
    exact ret hP hS hd
  have b268 : ∀ (r_first : Int64) (r_second : Int64) (H : Heap) (locs : List Loc) (ls : Array Slot), f_X7_finish_b268  r_x r_y r_z r_steps u_guard u_bits u_near u_ln u_digits  r_first r_second = some o → WP g A (wTurner g a0 a1 a2 a3 a4 a5 a6 r_x r_y r_z r_upBits r_steps r_first r_second u_width u_guard u_bits u_stages u_places u_near u_quarter u_eighth u_ln u_shifts u_angles u_gains u_undos u_digits) H → va_S A s.heap H locs → lv_has ls 2 [(0, .ref a0)] → W p l e rm_X7_finish s m args below meth c H locs 0 0 Q (F0 m 268 ls []) := by
    intro  r_first r_second H locs ls h hP hS hl
    unfold f_X7_finish_b268 at h
    refine lv_aload_n hx hb dX7_finish_268 rfl (lv_at hl 0 rfl) ?_
    refine lv_aload_n hx hb dX7_finish_269 rfl (lv_at hl 0 rfl) ?_
    refine gf_X7_9_Turner_0 X hP dX7_finish_270 ?_
    refine lv_aload_n hx hb dX7_finish_273 rfl (lv_at hl 0 rfl) ?_
    refine gf_X7_37_Turner_0 X hP dX7_finish_274 ?_
    obtain ⟨o2, hco2, h⟩ := bd_of h
    obtain ⟨hF, hFA⟩ := fo_Turner_Unit_1 hP
    refine kVN (rest := [.ref a0]) X dX7_finish_277 wd_4_5 mw_X8_outward wd_4_7 wp_4_9 hF (k0 := 0) rfl rfl rfl hS hFA (c_X8_outward hco2) rfl hl.1 rfl (Nat.le_of_ble_eq_true rfl) rfl rfl ⟨Nat.le_of_ble_eq_true rfl, Nat.le_of_ble_eq_true rfl⟩ (fun H locs hF1 _ hk hS => ?_)
    have hP := un_Turner_Unit_1 hP hk hF1
    refine W.eq (g2 := F0 m 280 ls [.long o2, .ref a0]) rfl ?_
    refine lv_aload_n hx hb dX7_finish_280 rfl (lv_at hl 0 rfl) ?_
    refine gf_X7_9_Turner_0 X hP dX7_finish_281 ?_
    refine lv_aload_n hx hb dX7_finish_284 rfl (lv_at hl 0 rfl) ?_
    refine gf_X7_41_Turner_0 X hP dX7_finish_285 ?_
    obtain ⟨o3, hco3, h⟩ := bd_of h
    obtain ⟨hF, hFA⟩ := fo_Turner_Unit_1 hP
    refine kVN (rest := [.long o2, .ref a0]) X dX7_finish_288 wd_4_5 mw_X8_outward wd_4_7 wp_4_9 hF (k0 := 0) rfl rfl rfl hS hFA (c_X8_outward hco3) rfl hl.1 rfl (Nat.le_of_ble_eq_true rfl) rfl rfl ⟨Nat.le_of_ble_eq_true rfl, Nat.le_of_ble_eq_true rfl⟩ (fun H locs hF1 _ hk hS => ?_)
    have hP := un_Turner_Unit_1 hP hk hF1
    refine W.eq (g2 := F0 m 291 ls [.long o3, .long o2, .ref a0]) rfl ?_
    obtain ⟨o4, hco4, h⟩ := bd_of h
    refine kV (rest := []) X dX7_finish_291 wd_3_232 mw_X7_answers wd_3_234 wp_4_6 hP (k0 := 0) rfl rfl rfl hS (fun _ z => z) (c_X7_answers hco4) rfl hl.1 rfl (Nat.le_of_ble_eq_true rfl) rfl rfl ⟨Nat.le_of_ble_eq_true rfl, Nat.le_of_ble_eq_true rfl⟩ (fun H locs hP _ _ hS => ?_)
    refine W.eq (g2 := F0 m 294 ls []) rfl ?_
    exact ret h hP hS dX7_finish_294
  have b240 : ∀ (r_first : Int64) (r_second : Int64) (H : Heap) (locs : List Loc) (ls : Array Slot), f_X7_finish_b240  r_x r_y r_z r_steps u_guard u_bits u_near u_ln u_digits  r_first r_second = some o → WP g A (wTurner g a0 a1 a2 a3 a4 a5 a6 r_x r_y r_z r_upBits r_steps r_first r_second u_width u_guard u_bits u_stages u_places u_near u_quarter u_eighth u_ln u_shifts u_angles u_gains u_undos u_digits) H → va_S A s.heap H locs → lv_has ls 2 [(0, .ref a0)] → W p l e rm_X7_finish s m args below meth c H locs 0 0 Q (F0 m 240 ls []) := by
    intro  r_first r_second H locs ls h hP hS hl
    unfold f_X7_finish_b240 at h
    refine lv_aload_n hx hb dX7_finish_240 rfl (lv_at hl 0 rfl) ?_
    refine lv_aload_n hx hb dX7_finish_241 rfl (lv_at hl 0 rfl) ?_
    refine gf_X7_9_Turner_0 X hP dX7_finish_242 ?_
    refine lv_iconst (v := 0) hx hb dX7_finish_245 rfl ?_
    refine lv_aload_n hx hb dX7_finish_246 rfl (lv_at hl 0 rfl) ?_
    refine gf_X7_130_Turner_0 X hP dX7_finish_247 ?_
    obtain ⟨o12, hco12, h⟩ := bd_of h
    obtain ⟨hF, hFA⟩ := fo_Turner_Unit_1 hP
    refine kVN (rest := [.ref a0]) X dX7_finish_250 wd_4_4 mw_X8_withoutGain wd_3_131 wp_3_6 hF (k0 := 0) rfl rfl rfl hS hFA (c_X8_withoutGain hco12) rfl hl.1 rfl (Nat.le_of_ble_eq_true rfl) rfl rfl ⟨Nat.le_of_ble_eq_true rfl, Nat.le_of_ble_eq_true rfl⟩ (fun H locs hF1 _ hk hS => ?_)
    have hP := un_Turner_Unit_1 hP hk hF1
    refine W.eq (g2 := F0 m 253 ls [.long o12, .ref a0]) rfl ?_
    refine lv_aload_n hx hb dX7_finish_253 rfl (lv_at hl 0 rfl) ?_
    refine gf_X7_9_Turner_0 X hP dX7_finish_254 ?_
    refine lv_iconst (v := 0) hx hb dX7_finish_257 rfl ?_
    refine lv_aload_n hx hb dX7_finish_258 rfl (lv_at hl 0 rfl) ?_
    refine gf_X7_133_Turner_0 X hP dX7_finish_259 ?_
    obtain ⟨o13, hco13, h⟩ := bd_of h
    obtain ⟨hF, hFA⟩ := fo_Turner_Unit_1 hP
    refine kVN (rest := [.long o12, .ref a0]) X dX7_finish_262 wd_4_4 mw_X8_withoutGain wd_3_131 wp_3_6 hF (k0 := 0) rfl rfl rfl hS hFA (c_X8_withoutGain hco13) rfl hl.1 rfl (Nat.le_of_ble_eq_true rfl) rfl rfl ⟨Nat.le_of_ble_eq_true rfl, Nat.le_of_ble_eq_true rfl⟩ (fun H locs hF1 _ hk hS => ?_)
    have hP := un_Turner_Unit_1 hP hk hF1
    refine W.eq (g2 := F0 m 265 ls [.long o13, .long o12, .ref a0]) rfl ?_
    obtain ⟨o14, hco14, h⟩ := bd_of h
    refine kV (rest := []) X dX7_finish_265 wd_3_232 mw_X7_answers wd_3_234 wp_4_6 hP (k0 := 0) rfl rfl rfl hS (fun _ z => z) (c_X7_answers hco14) rfl hl.1 rfl (Nat.le_of_ble_eq_true rfl) rfl rfl ⟨Nat.le_of_ble_eq_true rfl, Nat.le_of_ble_eq_true rfl⟩ (fun H locs hP _ _ hS => ?_)
    refine W.eq (g2 := F0 m 268 ls []) rfl ?_
    exact b268   o14.1 o14.2 _ _ _ h hP hS (lv_sub hl [0] rfl)
  unfold f_X7_finish at h
  refine sgO X hS (sfX X).2.2.1 wd_3_157 dX7_finish_0 ?_
  refine sgN X hS (sfX X).1 wd_3_159 dX7_finish_3 ?_
  refine lv_iload_n hx hb dX7_finish_6 rfl (lv_at hl 1 rfl) ?_
  obtain ⟨hi7, h⟩ := gv_of h
  refine stq X hS (sfX X).2.2.2.2.2.2.2.1 hi7 dX7_finish_7 ?_
  refine W.eq (g2 := F0 m 8 ls [.ref (g.2 (20 + (p0).toNatClampNeg)), .ref (g.2 7)]) rfl ?_
  refine ord_row (E := "TurnShifts$Kind") (rest := [.ref (g.2 7)]) X hl.1 hS ((sfX X).2.2.2.2.2.2.2.2.2.2.2.2.1 _ (vin_lt hi7)).1 ((sfX X).2.2.2.2.2.2.2.2.2.2.2.2.1 _ (vin_lt hi7)).2.1 wd_3_160 wd_3_161 wd_3_162 (Nat.le_of_ble_eq_true rfl) (Nat.le_of_ble_eq_true rfl) dX7_finish_8 (Nat.le_of_ble_eq_true rfl) ?_
  refine W.eq (g2 := F0 m 11 ls [.int (Int32.ofNat (p0).toNatClampNeg), .ref (g.2 7)]) rfl ?_
  obtain ⟨hi11, h⟩ := gv_of h
  refine sti X hS (sfX X).2.2.2.2.2.2.2.2.2.1 hi11 dX7_finish_11 ?_
  refine W.eq (g2 := F0 m 12 ls [.int (swK ((Int32.ofNat (p0).toNatClampNeg)).toNatClampNeg)]) rfl ?_
  by_cases c12_1 : (swK ((Int32.ofNat (p0).toNatClampNeg)).toNatClampNeg) = 1
  · have h := br_p c12_1 h
    refine lv_tableIn (off := 52) (tgt := 64) hx hb dX7_finish_12 (by rw [c12_1]; decide) (by rw [c12_1]; decide) (by rw [c12_1]; rfl) rfl ?_
    refine lv_aload_n hx hb dX7_finish_64 rfl (lv_at hl 0 rfl) ?_
    refine lv_aload_n hx hb dX7_finish_65 rfl (lv_at hl 0 rfl) ?_
    refine gf_X7_130_Turner_0 X hP dX7_finish_66 ?_
    refine lv_aload_n hx hb dX7_finish_69 rfl (lv_at hl 0 rfl) ?_
    refine gf_X7_133_Turner_0 X hP dX7_finish_70 ?_
    obtain ⟨o1, hco1, h⟩ := bd_of h
    refine kV (rest := []) X dX7_finish_73 wd_3_228 mw_X7_turnQuarters wd_3_230 wp_4_5 hP (k0 := 0) rfl rfl rfl hS (fun _ z => z) (c_X7_turnQuarters hco1) rfl hl.1 rfl (Nat.le_of_ble_eq_true rfl) rfl rfl ⟨Nat.le_of_ble_eq_true rfl, Nat.le_of_ble_eq_true rfl⟩ (fun H locs hP _ _ hS => ?_)
    refine W.eq (g2 := F0 m 76 ls []) rfl ?_
    refine lv_goto (tgt := 268) hx hb dX7_finish_76 rfl ?_
    exact b268   o1.1 o1.2 _ _ _ h hP hS (lv_sub hl [0] rfl)
  have h := br_n c12_1 h
  by_cases c12_2 : (swK ((Int32.ofNat (p0).toNatClampNeg)).toNatClampNeg) = 2
  · have h := br_p c12_2 h
    refine lv_tableIn (off := 67) (tgt := 79) hx hb dX7_finish_12 (by rw [c12_2]; decide) (by rw [c12_2]; decide) (by rw [c12_2]; rfl) rfl ?_
    refine lv_aload_n hx hb dX7_finish_79 rfl (lv_at hl 0 rfl) ?_
    refine lv_aload_n hx hb dX7_finish_80 rfl (lv_at hl 0 rfl) ?_
    refine gf_X7_9_Turner_0 X hP dX7_finish_81 ?_
    refine lv_iconst (v := 0) hx hb dX7_finish_84 rfl ?_
    refine lv_aload_n hx hb dX7_finish_85 rfl (lv_at hl 0 rfl) ?_
    refine gf_X7_130_Turner_0 X hP dX7_finish_86 ?_
    obtain ⟨o5, hco5, h⟩ := bd_of h
    obtain ⟨hF, hFA⟩ := fo_Turner_Unit_1 hP
    refine kVN (rest := [.ref a0]) X dX7_finish_89 wd_4_4 mw_X8_withoutGain wd_3_131 wp_3_6 hF (k0 := 0) rfl rfl rfl hS hFA (c_X8_withoutGain hco5) rfl hl.1 rfl (Nat.le_of_ble_eq_true rfl) rfl rfl ⟨Nat.le_of_ble_eq_true rfl, Nat.le_of_ble_eq_true rfl⟩ (fun H locs hF1 _ hk hS => ?_)
    have hP := un_Turner_Unit_1 hP hk hF1
    refine W.eq (g2 := F0 m 92 ls [.long o5, .ref a0]) rfl ?_
    refine lv_aload_n hx hb dX7_finish_92 rfl (lv_at hl 0 rfl) ?_
    refine gf_X7_136_Turner_0 X hP dX7_finish_93 ?_
    obtain ⟨o6, hco6, h⟩ := bd_of h
    refine kV (rest := []) X dX7_finish_96 wd_3_232 mw_X7_answers wd_3_234 wp_4_6 hP (k0 := 0) rfl rfl rfl hS (fun _ z => z) (c_X7_answers hco6) rfl hl.1 rfl (Nat.le_of_ble_eq_true rfl) rfl rfl ⟨Nat.le_of_ble_eq_true rfl, Nat.le_of_ble_eq_true rfl⟩ (fun H locs hP _ _ hS => ?_)
    refine W.eq (g2 := F0 m 99 ls []) rfl ?_
    refine lv_goto (tgt := 268) hx hb dX7_finish_99 rfl ?_
    exact b268   o6.1 o6.2 _ _ _ h hP hS (lv_sub hl [0] rfl)
  have h := br_n c12_2 h
  by_cases c12_3 : (swK ((Int32.ofNat (p0).toNatClampNeg)).toNatClampNeg) = 3
  · have h := br_p c12_3 h
    refine lv_tableIn (off := 90) (tgt := 102) hx hb dX7_finish_12 (by rw [c12_3]; decide) (by rw [c12_3]; decide) (by rw [c12_3]; rfl) rfl ?_
    refine lv_aload_n hx hb dX7_finish_102 rfl (lv_at hl 0 rfl) ?_
    refine lv_aload_n hx hb dX7_finish_103 rfl (lv_at hl 0 rfl) ?_
    refine gf_X7_133_Turner_0 X hP dX7_finish_104 ?_
    refine lv_aload_n hx hb dX7_finish_107 rfl (lv_at hl 0 rfl) ?_
    refine gf_X7_86_Turner_0 X hP dX7_finish_108 ?_
    refine lv_lshl hx hb dX7_finish_111 rfl ?_
    refine lv_lconst (v := 0) hx hb dX7_finish_112 rfl ?_
    obtain ⟨o7, hco7, h⟩ := bd_of h
    refine kV (rest := []) X dX7_finish_113 wd_3_232 mw_X7_answers wd_3_234 wp_4_6 hP (k0 := 0) rfl rfl rfl hS (fun _ z => z) (c_X7_answers hco7) rfl hl.1 rfl (Nat.le_of_ble_eq_true rfl) rfl rfl ⟨Nat.le_of_ble_eq_true rfl, Nat.le_of_ble_eq_true rfl⟩ (fun H locs hP _ _ hS => ?_)
    refine W.eq (g2 := F0 m 116 ls []) rfl ?_
    refine lv_goto (tgt := 268) hx hb dX7_finish_116 rfl ?_
    exact b268   o7.1 o7.2 _ _ _ h hP hS (lv_sub hl [0] rfl)
  have h := br_n c12_3 h
  by_cases c12_4 : (swK ((Int32.ofNat (p0).toNatClampNeg)).toNatClampNeg) = 4
  · have h := br_p c12_4 h
    refine lv_tableIn (off := 107) (tgt := 119) hx hb dX7_finish_12 (by rw [c12_4]; decide) (by rw [c12_4]; decide) (by rw [c12_4]; rfl) rfl ?_
    refine lv_aload_n hx hb dX7_finish_119 rfl (lv_at hl 0 rfl) ?_
    refine lv_aload_n hx hb dX7_finish_120 rfl (lv_at hl 0 rfl) ?_
    refine gf_X7_136_Turner_0 X hP dX7_finish_121 ?_
    refine lv_aload_n hx hb dX7_finish_124 rfl (lv_at hl 0 rfl) ?_
    refine gf_X7_86_Turner_0 X hP dX7_finish_125 ?_
    refine lv_lshl hx hb dX7_finish_128 rfl ?_
    refine lv_lconst (v := 0) hx hb dX7_finish_129 rfl ?_
    obtain ⟨o8, hco8, h⟩ := bd_of h
    refine kV (rest := []) X dX7_finish_130 wd_3_232 mw_X7_answers wd_3_234 wp_4_6 hP (k0 := 0) rfl rfl rfl hS (fun _ z => z) (c_X7_answers hco8) rfl hl.1 rfl (Nat.le_of_ble_eq_true rfl) rfl rfl ⟨Nat.le_of_ble_eq_true rfl, Nat.le_of_ble_eq_true rfl⟩ (fun H locs hP _ _ hS => ?_)
    refine W.eq (g2 := F0 m 133 ls []) rfl ?_
    refine lv_goto (tgt := 268) hx hb dX7_finish_133 rfl ?_
    exact b268   o8.1 o8.2 _ _ _ h hP hS (lv_sub hl [0] rfl)
  have h := br_n c12_4 h
  by_cases c12_5 : (swK ((Int32.ofNat (p0).toNatClampNeg)).toNatClampNeg) = 5
  · have h := br_p c12_5 h
    refine lv_tableIn (off := 124) (tgt := 136) hx hb dX7_finish_12 (by rw [c12_5]; decide) (by rw [c12_5]; decide) (by rw [c12_5]; rfl) rfl ?_
    refine lv_aload_n hx hb dX7_finish_136 rfl (lv_at hl 0 rfl) ?_
    refine lv_aload_n hx hb dX7_finish_137 rfl (lv_at hl 0 rfl) ?_
    refine gf_X7_130_Turner_0 X hP dX7_finish_138 ?_
    refine lv_aload_n hx hb dX7_finish_141 rfl (lv_at hl 0 rfl) ?_
    refine gf_X7_133_Turner_0 X hP dX7_finish_142 ?_
    obtain ⟨o9, hco9, h⟩ := bd_of h
    refine kV (rest := []) X dX7_finish_145 wd_3_232 mw_X7_answers wd_3_234 wp_4_6 hP (k0 := 0) rfl rfl rfl hS (fun _ z => z) (c_X7_answers hco9) rfl hl.1 rfl (Nat.le_of_ble_eq_true rfl) rfl rfl ⟨Nat.le_of_ble_eq_true rfl, Nat.le_of_ble_eq_true rfl⟩ (fun H locs hP _ _ hS => ?_)
    refine W.eq (g2 := F0 m 148 ls []) rfl ?_
    refine lv_goto (tgt := 268) hx hb dX7_finish_148 rfl ?_
    exact b268   o9.1 o9.2 _ _ _ h hP hS (lv_sub hl [0] rfl)
  have h := br_n c12_5 h
  by_cases c12_6 : (swK ((Int32.ofNat (p0).toNatClampNeg)).toNatClampNeg) = 6
  · have h := br_p c12_6 h
    refine lv_tableIn (off := 139) (tgt := 151) hx hb dX7_finish_12 (by rw [c12_6]; decide) (by rw [c12_6]; decide) (by rw [c12_6]; rfl) rfl ?_
    refine lv_aload_n hx hb dX7_finish_151 rfl (lv_at hl 0 rfl) ?_
    refine lv_aload_n hx hb dX7_finish_152 rfl (lv_at hl 0 rfl) ?_
    refine gf_X7_9_Turner_0 X hP dX7_finish_153 ?_
    refine lv_aload_n hx hb dX7_finish_156 rfl (lv_at hl 0 rfl) ?_
    refine gf_X7_130_Turner_0 X hP dX7_finish_157 ?_
    refine lv_aload_n hx hb dX7_finish_160 rfl (lv_at hl 0 rfl) ?_
    refine gf_X7_133_Turner_0 X hP dX7_finish_161 ?_
    refine lv_ladd hx hb dX7_finish_164 ?_
    refine lv_aload_n hx hb dX7_finish_165 rfl (lv_at hl 0 rfl) ?_
    refine gf_X7_86_Turner_0 X hP dX7_finish_166 ?_
    obtain ⟨o10, hco10, h⟩ := bd_of h
    obtain ⟨hF, hFA⟩ := fo_Turner_Unit_1 hP
    refine kVN (rest := [.ref a0]) X dX7_finish_169 wd_3_216 mw_X8_scaled wd_3_218 wp_4_2 hF (k0 := 0) rfl rfl rfl hS hFA (c_X8_scaled hco10) rfl hl.1 rfl (Nat.le_of_ble_eq_true rfl) rfl rfl ⟨Nat.le_of_ble_eq_true rfl, Nat.le_of_ble_eq_true rfl⟩ (fun H locs hF1 _ hk hS => ?_)
    have hP := un_Turner_Unit_1 hP hk hF1
    refine W.eq (g2 := F0 m 172 ls [.long o10, .ref a0]) rfl ?_
    refine lv_lconst (v := 0) hx hb dX7_finish_172 rfl ?_
    obtain ⟨o11, hco11, h⟩ := bd_of h
    refine kV (rest := []) X dX7_finish_173 wd_3_232 mw_X7_answers wd_3_234 wp_4_6 hP (k0 := 0) rfl rfl rfl hS (fun _ z => z) (c_X7_answers hco11) rfl hl.1 rfl (Nat.le_of_ble_eq_true rfl) rfl rfl ⟨Nat.le_of_ble_eq_true rfl, Nat.le_of_ble_eq_true rfl⟩ (fun H locs hP _ _ hS => ?_)
    refine W.eq (g2 := F0 m 176 ls []) rfl ?_
    refine lv_goto (tgt := 268) hx hb dX7_finish_176 rfl ?_
    exact b268   o11.1 o11.2 _ _ _ h hP hS (lv_sub hl [0] rfl)
  have h := br_n c12_6 h
  by_cases c12_7 : (swK ((Int32.ofNat (p0).toNatClampNeg)).toNatClampNeg) = 7
  · have h := br_p c12_7 h
    refine lv_tableIn (off := 228) (tgt := 240) hx hb dX7_finish_12 (by rw [c12_7]; decide) (by rw [c12_7]; decide) (by rw [c12_7]; rfl) rfl ?_
    exact b240   r_first r_second _ _ _ h hP hS (lv_sub hl [0] rfl)
  have h := br_n c12_7 h
  by_cases c12_8 : (swK ((Int32.ofNat (p0).toNatClampNeg)).toNatClampNeg) = 8
  · have h := br_p c12_8 h
    refine lv_tableIn (off := 167) (tgt := 179) hx hb dX7_finish_12 (by rw [c12_8]; decide) (by rw [c12_8]; decide) (by rw [c12_8]; rfl) rfl ?_
    refine lv_aload_n hx hb dX7_finish_179 rfl (lv_at hl 0 rfl) ?_
    refine lv_ldc2 (v := 2) hx hb X.2.2.2.1 (X.2.2.2.2.1 _ wd_3_184) dX7_finish_180 ?_
    refine lv_aload_n hx hb dX7_finish_183 rfl (lv_at hl 0 rfl) ?_
    refine gf_X7_136_Turner_0 X hP dX7_finish_184 ?_
    refine lv_lmul hx hb dX7_finish_187 ?_
    refine lv_aload_n hx hb dX7_finish_188 rfl (lv_at hl 0 rfl) ?_
    refine gf_X7_86_Turner_0 X hP dX7_finish_189 ?_
    refine lv_i2l hx hb dX7_finish_192 rfl ?_
    refine lv_aload_n hx hb dX7_finish_193 rfl (lv_at hl 0 rfl) ?_
    refine gf_X7_9_Turner_0 X hP dX7_finish_194 ?_
    refine gf_X7_113_Turner_1 X hP dX7_finish_197 ?_
    refine lv_lmul hx hb dX7_finish_200 ?_
    refine lv_ladd hx hb dX7_finish_201 ?_
    refine lv_lconst (v := 0) hx hb dX7_finish_202 rfl ?_
    obtain ⟨o15, hco15, h⟩ := bd_of h
    refine kV (rest := []) X dX7_finish_203 wd_3_232 mw_X7_answers wd_3_234 wp_4_6 hP (k0 := 0) rfl rfl rfl hS (fun _ z => z) (c_X7_answers hco15) rfl hl.1 rfl (Nat.le_of_ble_eq_true rfl) rfl rfl ⟨Nat.le_of_ble_eq_true rfl, Nat.le_of_ble_eq_true rfl⟩ (fun H locs hP _ _ hS => ?_)
    refine W.eq (g2 := F0 m 206 ls []) rfl ?_
    refine lv_goto (tgt := 268) hx hb dX7_finish_206 rfl ?_
    exact b268   o15.1 o15.2 _ _ _ h hP hS (lv_sub hl [0] rfl)
  have h := br_n c12_8 h
  by_cases c12_9 : (swK ((Int32.ofNat (p0).toNatClampNeg)).toNatClampNeg) = 9
  · have h := br_p c12_9 h
    refine lv_tableIn (off := 197) (tgt := 209) hx hb dX7_finish_12 (by rw [c12_9]; decide) (by rw [c12_9]; decide) (by rw [c12_9]; rfl) rfl ?_
    refine lv_aload_n hx hb dX7_finish_209 rfl (lv_at hl 0 rfl) ?_
    refine lv_aload_n hx hb dX7_finish_210 rfl (lv_at hl 0 rfl) ?_
    refine gf_X7_9_Turner_0 X hP dX7_finish_211 ?_
    refine lv_aload_n hx hb dX7_finish_214 rfl (lv_at hl 0 rfl) ?_
    refine gf_X7_9_Turner_0 X hP dX7_finish_215 ?_
    refine lv_iconst (v := 2) hx hb dX7_finish_218 rfl ?_
    refine lv_aload_n hx hb dX7_finish_219 rfl (lv_at hl 0 rfl) ?_
    refine gf_X7_130_Turner_0 X hP dX7_finish_220 ?_
    obtain ⟨o16, hco16, h⟩ := bd_of h
    obtain ⟨hF, hFA⟩ := fo_Turner_Unit_1 hP
    refine kVN (rest := [.ref a1, .ref a0]) X dX7_finish_223 wd_4_4 mw_X8_withoutGain wd_3_131 wp_3_6 hF (k0 := 0) rfl rfl rfl hS hFA (c_X8_withoutGain hco16) rfl hl.1 rfl (Nat.le_of_ble_eq_true rfl) rfl rfl ⟨Nat.le_of_ble_eq_true rfl, Nat.le_of_ble_eq_true rfl⟩ (fun H locs hF1 _ hk hS => ?_)
    have hP := un_Turner_Unit_1 hP hk hF1
    refine W.eq (g2 := F0 m 226 ls [.long o16, .ref a1, .ref a0]) rfl ?_
    refine lv_aload_n hx hb dX7_finish_226 rfl (lv_at hl 0 rfl) ?_
    refine gf_X7_86_Turner_0 X hP dX7_finish_227 ?_
    obtain ⟨o17, hco17, h⟩ := bd_of h
    obtain ⟨hF, hFA⟩ := fo_Turner_Unit_1 hP
    refine kVN (rest := [.ref a0]) X dX7_finish_230 wd_3_216 mw_X8_scaled wd_3_218 wp_4_2 hF (k0 := 0) rfl rfl rfl hS hFA (c_X8_scaled hco17) rfl hl.1 rfl (Nat.le_of_ble_eq_true rfl) rfl rfl ⟨Nat.le_of_ble_eq_true rfl, Nat.le_of_ble_eq_true rfl⟩ (fun H locs hF1 _ hk hS => ?_)
    have hP := un_Turner_Unit_1 hP hk hF1
    refine W.eq (g2 := F0 m 233 ls [.long o17, .ref a0]) rfl ?_
    refine lv_lconst (v := 0) hx hb dX7_finish_233 rfl ?_
    obtain ⟨o18, hco18, h⟩ := bd_of h
    refine kV (rest := []) X dX7_finish_234 wd_3_232 mw_X7_answers wd_3_234 wp_4_6 hP (k0 := 0) rfl rfl rfl hS (fun _ z => z) (c_X7_answers hco18) rfl hl.1 rfl (Nat.le_of_ble_eq_true rfl) rfl rfl ⟨Nat.le_of_ble_eq_true rfl, Nat.le_of_ble_eq_true rfl⟩ (fun H locs hP _ _ hS => ?_)
    refine W.eq (g2 := F0 m 237 ls []) rfl ?_
    refine lv_goto (tgt := 268) hx hb dX7_finish_237 rfl ?_
    exact b268   o18.1 o18.2 _ _ _ h hP hS (lv_sub hl [0] rfl)
  have h := br_n c12_9 h
  refine lv_tableOut (tgt := 240) hx hb dX7_finish_12 (by have := lv_neT (a := 1) c12_1 rfl; have := lv_neT (a := 2) c12_2 rfl; have := lv_neT (a := 3) c12_3 rfl; have := lv_neT (a := 4) c12_4 rfl; have := lv_neT (a := 5) c12_5 rfl; have := lv_neT (a := 6) c12_6 rfl; have := lv_neT (a := 7) c12_7 rfl; have := lv_neT (a := 8) c12_8 rfl; have := lv_neT (a := 9) c12_9 rfl; omega) rfl ?_
  exact b240   r_first r_second _ _ _ h hP hS (lv_sub hl [0] rfl)
abbrev rm_X7_solve : Room := { frames := 4, cells := 0, slots := 0, locals := 107 }
set_option maxRecDepth 100000 in
set_option maxHeartbeats 4000000 in
theorem c_X7_solve {g : gT} {l : Launch} {A : Nat → Prop} {a0 a1 a2 a3 a4 a5 a6 : Nat} {r_x : Int64} {r_y : Int64} {r_z : Int64} {r_upBits : Int32} {r_steps : Int32} {r_first : Int64} {r_second : Int64} {u_width : Int32} {u_guard : Int32} {u_bits : Int32} {u_stages : Int32} {u_places : Int32} {u_near : Bool} {u_quarter : Int64} {u_eighth : Int64} {u_ln : Int64} {u_shifts : Nat → Int32} {u_angles : Nat → Int64} {u_gains : Nat → Int64} {u_undos : Nat → Int64} {u_digits : Nat → Int32} {p0 : Int32} {p1 : Int64} {p2 : Int64} {p3 : Int64} {o : Bool × Int64 × Int64 × Int64 × Int32 × Int32 × Int64 × Int64} (h : f_X7_solve p0 p1 p2 p3 r_x r_y r_z r_upBits r_steps r_first r_second u_width u_guard u_bits u_stages u_near u_quarter u_ln u_shifts u_angles u_undos u_digits = some o) : Std g l yX7_solve (.code yX7_solve cX7_solve 8 (some .boolean) :: gw) rm_X7_solve A [.ref a0, .int p0, .long p1, .long p2, .long p3] (wTurner g a0 a1 a2 a3 a4 a5 a6 r_x r_y r_z r_upBits r_steps r_first r_second u_width u_guard u_bits u_stages u_places u_near u_quarter u_eighth u_ln u_shifts u_angles u_gains u_undos u_digits) (wTurner g a0 a1 a2 a3 a4 a5 a6 o.2.1 o.2.2.1 o.2.2.2.1 o.2.2.2.2.1 o.2.2.2.2.2.1 o.2.2.2.2.2.2.1 o.2.2.2.2.2.2.2 u_width u_guard u_bits u_stages u_places u_near u_quarter u_eighth u_ln u_shifts u_angles u_gains u_undos u_digits) (some (.int (bI o.1))) := by
  refine std_z (own := RX7) (by decide +kernel) rfl (Nat.le_of_ble_eq_true rfl) ?_
  intro p e s m args below meth c Q X ret H locs hP hS ls hl
  have hx := X.1
  have hb := X.2.1
  have hl : lv_has ls 8 [(0, .ref a0), (1, .int p0), (2, .long p1), (4, .long p2), (6, .long p3)] := hl
  have ret : ∀ {H : Heap} {locs : List Loc} {pc : Nat} {ls : Array Slot} {v : Bool} {r_x : Int64} {r_y : Int64} {r_z : Int64} {r_upBits : Int32} {r_steps : Int32} {r_first : Int64} {r_second : Int64}, some (v, r_x, r_y, r_z, r_upBits, r_steps, r_first, r_second) = some o → WP g A (wTurner g a0 a1 a2 a3 a4 a5 a6 r_x r_y r_z r_upBits r_steps r_first r_second u_width u_guard u_bits u_stages u_places u_near u_quarter u_eighth u_ln u_shifts u_angles u_gains u_undos u_digits) H → va_S A s.heap H locs → decode cX7_solve pc = .ok (.ireturn, 1) → W p l e rm_X7_solve s m args below meth c H locs 0 0 Q (F0 m pc ls [.int (bI v)]) := by
    intro H locs pc ls v r_x r_y r_z r_upBits r_steps r_first r_second h hP hS hd
    cases h
    exact ret hP hS hd
  unfold f_X7_solve at h
  refine lv_aload_n hx hb dX7_solve_0 rfl (lv_at hl 0 rfl) ?_
  refine lv_iload_n hx hb dX7_solve_1 rfl (lv_at hl 1 rfl) ?_
  refine lv_lload_n hx hb dX7_solve_2 rfl (lv_at hl 2 rfl) ?_
  refine lv_lload hx hb dX7_solve_3 (lv_at hl 3 rfl) ?_
  refine lv_lload hx hb dX7_solve_5 (lv_at hl 4 rfl) ?_
  obtain ⟨o1, hco1, h⟩ := bd_of h
  refine kV (rest := []) X dX7_solve_7 wd_3_153 mw_X7_fits wd_3_155 wp_3_10 hP (k0 := 0) rfl rfl rfl hS (fun _ z => z) (c_X7_fits hco1) rfl hl.1 rfl (Nat.le_of_ble_eq_true rfl) rfl rfl ⟨Nat.le_of_ble_eq_true rfl, Nat.le_of_ble_eq_true rfl⟩ (fun H locs hP _ _ hS => ?_)
  refine W.eq (g2 := F0 m 10 ls [.int (bI o1)]) rfl ?_
  refine rb_ne (tgt := 15) hx hb dX7_solve_10 rfl (fun c10 => ?_) (fun c10 => ?_)
  · have h := br_p c10 h
    refine lv_aload_n hx hb dX7_solve_15 rfl (lv_at hl 0 rfl) ?_
    refine lv_iload_n hx hb dX7_solve_16 rfl (lv_at hl 1 rfl) ?_
    refine lv_lload_n hx hb dX7_solve_17 rfl (lv_at hl 2 rfl) ?_
    refine lv_lload hx hb dX7_solve_18 (lv_at hl 3 rfl) ?_
    refine lv_lload hx hb dX7_solve_20 (lv_at hl 4 rfl) ?_
    obtain ⟨o2, hco2, h⟩ := bd_of h
    refine kV (rest := []) X dX7_solve_22 wd_3_173 mw_X7_begin wd_3_175 wp_3_12 hP (k0 := 0) rfl rfl rfl hS (fun _ z => z) (c_X7_begin hco2) rfl hl.1 rfl (Nat.le_of_ble_eq_true rfl) rfl rfl ⟨Nat.le_of_ble_eq_true rfl, Nat.le_of_ble_eq_true rfl⟩ (fun H locs hP _ _ hS => ?_)
    refine W.eq (g2 := F0 m 25 ls []) rfl ?_
    refine lv_aload_n hx hb dX7_solve_25 rfl (lv_at hl 0 rfl) ?_
    refine lv_iload_n hx hb dX7_solve_26 rfl (lv_at hl 1 rfl) ?_
    refine lv_aload_n hx hb dX7_solve_27 rfl (lv_at hl 0 rfl) ?_
    refine gf_X7_9_Turner_0 X hP dX7_solve_28 ?_
    refine gf_X7_23_Turner_1 X hP dX7_solve_31 ?_
    obtain ⟨o3, hco3, h⟩ := bd_of h
    refine kV (rest := []) X dX7_solve_34 wd_3_236 mw_X7_goThrough wd_3_238 wp_4_7 hP (k0 := 0) rfl rfl rfl hS (fun _ z => z) (c_X7_goThrough hco3) rfl hl.1 rfl (Nat.le_of_ble_eq_true rfl) rfl rfl ⟨Nat.le_of_ble_eq_true rfl, Nat.le_of_ble_eq_true rfl⟩ (fun H locs hP _ _ hS => ?_)
    refine W.eq (g2 := F0 m 37 ls []) rfl ?_
    refine lv_aload_n hx hb dX7_solve_37 rfl (lv_at hl 0 rfl) ?_
    refine lv_iload_n hx hb dX7_solve_38 rfl (lv_at hl 1 rfl) ?_
    obtain ⟨o4, hco4, h⟩ := bd_of h
    refine kV (rest := []) X dX7_solve_39 wd_4_0 mw_X7_finish wd_4_2 wp_4_8 hP (k0 := 0) rfl rfl rfl hS (fun _ z => z) (c_X7_finish hco4) rfl hl.1 rfl (Nat.le_of_ble_eq_true rfl) rfl rfl ⟨Nat.le_of_ble_eq_true rfl, Nat.le_of_ble_eq_true rfl⟩ (fun H locs hP _ _ hS => ?_)
    refine W.eq (g2 := F0 m 42 ls []) rfl ?_
    refine lv_iconst (v := 1) hx hb dX7_solve_42 rfl ?_
    exact ret h hP hS dX7_solve_43
  · have h := br_n c10 h
    refine lv_iconst (v := 0) hx hb dX7_solve_13 rfl ?_
    exact ret h hP hS dX7_solve_14
abbrev rm_X7_answer : Room := { frames := 0, cells := 0, slots := 0, locals := 0 }
set_option maxRecDepth 100000 in
set_option maxHeartbeats 4000000 in
theorem c_X7_answer {g : gT} {l : Launch} {A : Nat → Prop} {a0 a1 a2 a3 a4 a5 a6 : Nat} {r_x : Int64} {r_y : Int64} {r_z : Int64} {r_upBits : Int32} {r_steps : Int32} {r_first : Int64} {r_second : Int64} {u_width : Int32} {u_guard : Int32} {u_bits : Int32} {u_stages : Int32} {u_places : Int32} {u_near : Bool} {u_quarter : Int64} {u_eighth : Int64} {u_ln : Int64} {u_shifts : Nat → Int32} {u_angles : Nat → Int64} {u_gains : Nat → Int64} {u_undos : Nat → Int64} {u_digits : Nat → Int32} {p0 : Int32} {o : Int64} (h : f_X7_answer p0 r_first r_second = some o) : Std g l yX7_answer (.code yX7_answer cX7_answer 2 (some .long) :: gw) rm_X7_answer A [.ref a0, .int p0] (wTurner g a0 a1 a2 a3 a4 a5 a6 r_x r_y r_z r_upBits r_steps r_first r_second u_width u_guard u_bits u_stages u_places u_near u_quarter u_eighth u_ln u_shifts u_angles u_gains u_undos u_digits) (wTurner g a0 a1 a2 a3 a4 a5 a6 r_x r_y r_z r_upBits r_steps r_first r_second u_width u_guard u_bits u_stages u_places u_near u_quarter u_eighth u_ln u_shifts u_angles u_gains u_undos u_digits) (some (.long o)) := by
  refine std_l (own := RX7) (by decide +kernel) rfl (Nat.le_of_ble_eq_true rfl) ?_
  intro p e s m args below meth c Q X ret H locs hP hS ls hl
  have hx := X.1
  have hb := X.2.1
  have hl : lv_has ls 2 [(0, .ref a0), (1, .int p0)] := hl
  have ret : ∀ {H : Heap} {locs : List Loc} {pc : Nat} {ls : Array Slot} {v : Int64} , some (v) = some o → WP g A (wTurner g a0 a1 a2 a3 a4 a5 a6 r_x r_y r_z r_upBits r_steps r_first r_second u_width u_guard u_bits u_stages u_places u_near u_quarter u_eighth u_ln u_shifts u_angles u_gains u_undos u_digits) H → va_S A s.heap H locs → decode cX7_answer pc = .ok (.lreturn, 1) → W p l e rm_X7_answer s m args below meth c H locs 0 0 Q (F0 m pc ls [.long v]) := by
    intro H locs pc ls v h hP hS hd
    cases h
    exact ret hP hS hd
  unfold f_X7_answer at h
  refine lv_iload_n hx hb dX7_answer_0 rfl (lv_at hl 1 rfl) ?_
  refine jx1 h (P := fun (v1 : Int64) => ∀ ls : Array Slot, lv_has ls 2 [] → W p l e rm_X7_answer s m args below meth c H locs 0 0 Q (F0 m 15 ls [.long v1])) ?_ ?_
  · intro v1 h ls hl
    exact ret h hP hS dX7_answer_15
  · intro J h
    refine lv_if_ne (tgt := 11) hx hb dX7_answer_1 rfl (fun c1 => ?_) (fun c1 => ?_)
    · refine lv_aload_n hx hb dX7_answer_11 rfl (lv_at hl 0 rfl) ?_
      refine gf_X7_41_Turner_0 X hP dX7_answer_12 ?_
      exact J _ (lt_in c1 h) ls (lv_sub hl [] rfl)
    · refine lv_aload_n hx hb dX7_answer_4 rfl (lv_at hl 0 rfl) ?_
      refine gf_X7_37_Turner_0 X hP dX7_answer_5 ?_
      refine lv_goto (tgt := 15) hx hb dX7_answer_8 rfl ?_
      exact J _ (lt_ip c1 h) ls (lv_sub hl [] rfl)
abbrev rm_X1_bringIn : Room := { frames := 5, cells := 0, slots := 0, locals := 134 }
set_option maxRecDepth 100000 in
set_option maxHeartbeats 4000000 in
theorem c_X1_bringIn {g : gT} {l : Launch} {A : Nat → Prop} {a0 a1 a2 a3 a4 a5 a6 a7 a8 a9 a10 a11 a12 a13 a14 a15 : Nat} {b_jobs : Int32} {b_over : Int32} {b_clocks : Int32} {b_held : Bool} {b_kinds : Nat → Int32} {b_operands : Nat → Int32} {b_ties : Nat → Int32} {b_states : Nat → Int32} {b_gone : Nat → Int32} {b_toldIn : Nat → Int32} {b_broughtIn : Nat → Int32} {b_doneIn : Nat → Int32} {r_x : Int64} {r_y : Int64} {r_z : Int64} {r_upBits : Int32} {r_steps : Int32} {r_first : Int64} {r_second : Int64} {u_width : Int32} {u_guard : Int32} {u_bits : Int32} {u_stages : Int32} {u_places : Int32} {u_near : Bool} {u_quarter : Int64} {u_eighth : Int64} {u_ln : Int64} {u_shifts : Nat → Int32} {u_angles : Nat → Int64} {u_gains : Nat → Int64} {u_undos : Nat → Int64} {u_digits : Nat → Int32} {p0 : Int32} {o : (Nat → Int32) × (Nat → Int32) × (Nat → Int32) × Int64 × Int64 × Int64 × Int32 × Int32 × Int64 × Int64} (h : f_X1_bringIn p0 b_clocks b_kinds b_operands b_ties b_states b_broughtIn r_x r_y r_z r_upBits r_steps r_first r_second u_width u_guard u_bits u_stages u_near u_quarter u_ln u_shifts u_angles u_undos u_digits = some o) : Std g l yX1_bringIn (.code yX1_bringIn cX1_bringIn 7 none :: gw) rm_X1_bringIn A [.ref a0, .int p0, .ref a9] (wBT g a0 a1 a2 a3 a4 a5 a6 a7 a8 a9 a10 a11 a12 a13 a14 a15 b_jobs b_over b_clocks b_held b_kinds b_operands b_ties b_states b_gone b_toldIn b_broughtIn b_doneIn r_x r_y r_z r_upBits r_steps r_first r_second u_width u_guard u_bits u_stages u_places u_near u_quarter u_eighth u_ln u_shifts u_angles u_gains u_undos u_digits) (wBT g a0 a1 a2 a3 a4 a5 a6 a7 a8 a9 a10 a11 a12 a13 a14 a15 b_jobs b_over b_clocks b_held b_kinds o.1 b_ties o.2.1 b_gone b_toldIn o.2.2.1 b_doneIn o.2.2.2.1 o.2.2.2.2.1 o.2.2.2.2.2.1 o.2.2.2.2.2.2.1 o.2.2.2.2.2.2.2.1 o.2.2.2.2.2.2.2.2.1 o.2.2.2.2.2.2.2.2.2 u_width u_guard u_bits u_stages u_places u_near u_quarter u_eighth u_ln u_shifts u_angles u_gains u_undos u_digits) none := by
  refine std_v (own := RX1) (by decide +kernel) rfl (Nat.le_of_ble_eq_true rfl) ?_
  intro p e s m args below meth c Q X ret H locs hP hS ls hl
  have hx := X.1
  have hb := X.2.1
  have hl : lv_has ls 7 [(0, .ref a0), (1, .int p0), (2, .ref a9)] := hl
  have ret : ∀ {H : Heap} {locs : List Loc} {pc : Nat} {ls : Array Slot} {b_operands : Nat → Int32} {b_states : Nat → Int32} {b_broughtIn : Nat → Int32} {r_x : Int64} {r_y : Int64} {r_z : Int64} {r_upBits : Int32} {r_steps : Int32} {r_first : Int64} {r_second : Int64}, some (b_operands, b_states, b_broughtIn, r_x, r_y, r_z, r_upBits, r_steps, r_first, r_second) = some o → WP g A (wBT g a0 a1 a2 a3 a4 a5 a6 a7 a8 a9 a10 a11 a12 a13 a14 a15 b_jobs b_over b_clocks b_held b_kinds b_operands b_ties b_states b_gone b_toldIn b_broughtIn b_doneIn r_x r_y r_z r_upBits r_steps r_first r_second u_width u_guard u_bits u_stages u_places u_near u_quarter u_eighth u_ln u_shifts u_angles u_gains u_undos u_digits) H → va_S A s.heap H locs → decode cX1_bringIn pc = .ok (.return_, 1) → W p l e rm_X1_bringIn s m args below meth c H locs 0 0 Q (F0 m pc ls []) := by
    intro H locs pc ls b_operands b_states b_broughtIn r_x r_y r_z r_upBits r_steps r_first r_second h hP hS hd
    cases h
    exact ret hP hS hd
  have b194 : ∀ (x1 : Int32) (t0 : Bool) (b_operands : Nat → Int32) (b_states : Nat → Int32) (b_broughtIn : Nat → Int32) (r_x : Int64) (r_y : Int64) (r_z : Int64) (r_upBits : Int32) (r_steps : Int32) (r_first : Int64) (r_second : Int64) (H : Heap) (locs : List Loc) (ls : Array Slot), f_X1_bringIn_b194  b_clocks b_kinds b_ties u_width u_guard u_bits u_stages u_near u_quarter u_ln u_shifts u_angles u_undos u_digits  x1 t0 b_operands b_states b_broughtIn r_x r_y r_z r_upBits r_steps r_first r_second = some o → WP g A (wBT g a0 a1 a2 a3 a4 a5 a6 a7 a8 a9 a10 a11 a12 a13 a14 a15 b_jobs b_over b_clocks b_held b_kinds b_operands b_ties b_states b_gone b_toldIn b_broughtIn b_doneIn r_x r_y r_z r_upBits r_steps r_first r_second u_width u_guard u_bits u_stages u_places u_near u_quarter u_eighth u_ln u_shifts u_angles u_gains u_undos u_digits) H → va_S A s.heap H locs → lv_has ls 7 [(0, .ref a0), (1, .int x1)] → W p l e rm_X1_bringIn s m args below meth c H locs 0 0 Q (F0 m 194 ls [.int (bI t0)]) := by
    intro  x1 t0 b_operands b_states b_broughtIn r_x r_y r_z r_upBits r_steps r_first r_second H locs ls h hP hS hl
    unfold f_X1_bringIn_b194 at h
    refine lv_istore_n (lv' := [(3, .int (bI t0)), (0, .ref a0), (1, .int x1)]) hx hb dX1_bringIn_194 rfl hl (by decide) rfl (fun ls hl => ?_)
    refine lv_aload_n hx hb dX1_bringIn_195 rfl (lv_at hl 1 rfl) ?_
    refine gf_X1_21_BT_0 X hP dX1_bringIn_196 ?_
    refine lv_iload_n hx hb dX1_bringIn_199 rfl (lv_at hl 2 rfl) ?_
    refine lv_iload_n hx hb dX1_bringIn_200 rfl (lv_at hl 0 rfl) ?_
    refine jx1 h (P := fun (v3 : Int32) => ∀ ls : Array Slot, lv_has ls 7 [(0, .ref a0), (1, .int x1)] → W p l e rm_X1_bringIn s m args below meth c H locs 0 0 Q (F0 m 209 ls [.int v3, .int x1, .ref a4])) ?_ ?_
    · intro v3 h ls hl
      obtain ⟨hi209, h⟩ := gv_of h
      refine as_BT_4 (v0 := v3) X hP hS hi209 dX1_bringIn_209 (fun H locs hP hS => ?_)
      refine lv_aload_n hx hb dX1_bringIn_210 rfl (lv_at hl 0 rfl) ?_
      refine gf_X1_30_BT_0 X hP dX1_bringIn_211 ?_
      refine lv_iload_n hx hb dX1_bringIn_214 rfl (lv_at hl 1 rfl) ?_
      refine lv_aload_n hx hb dX1_bringIn_215 rfl (lv_at hl 0 rfl) ?_
      refine gf_X1_43_BT_0 X hP dX1_bringIn_216 ?_
      obtain ⟨hi219, h⟩ := gv_of h
      refine as_BT_7 (v0 := b_clocks) X hP hS hi219 dX1_bringIn_219 (fun H locs hP hS => ?_)
      exact ret h hP hS dX1_bringIn_220
    · intro J h
      refine rb_eq (tgt := 208) hx hb dX1_bringIn_201 rfl (fun c201 => ?_) (fun c201 => ?_)
      · refine lv_iconst (v := 1) hx hb dX1_bringIn_208 rfl ?_
        exact J _ (lt_in c201 h) ls (lv_sub hl [1, 2] rfl)
      · refine lv_iconst (v := 3) hx hb dX1_bringIn_204 rfl ?_
        refine lv_goto (tgt := 209) hx hb dX1_bringIn_205 rfl ?_
        exact J _ (lt_ip c201 h) ls (lv_sub hl [1, 2] rfl)
  have b189 : ∀ (x1 : Int32) (b_operands : Nat → Int32) (b_states : Nat → Int32) (b_broughtIn : Nat → Int32) (r_x : Int64) (r_y : Int64) (r_z : Int64) (r_upBits : Int32) (r_steps : Int32) (r_first : Int64) (r_second : Int64) (H : Heap) (locs : List Loc) (ls : Array Slot), f_X1_bringIn_b189  b_clocks b_kinds b_ties u_width u_guard u_bits u_stages u_near u_quarter u_ln u_shifts u_angles u_undos u_digits  x1 b_operands b_states b_broughtIn r_x r_y r_z r_upBits r_steps r_first r_second = some o → WP g A (wBT g a0 a1 a2 a3 a4 a5 a6 a7 a8 a9 a10 a11 a12 a13 a14 a15 b_jobs b_over b_clocks b_held b_kinds b_operands b_ties b_states b_gone b_toldIn b_broughtIn b_doneIn r_x r_y r_z r_upBits r_steps r_first r_second u_width u_guard u_bits u_stages u_places u_near u_quarter u_eighth u_ln u_shifts u_angles u_gains u_undos u_digits) H → va_S A s.heap H locs → lv_has ls 7 [(0, .ref a0), (1, .int x1)] → W p l e rm_X1_bringIn s m args below meth c H locs 0 0 Q (F0 m 189 ls []) := by
    intro  x1 b_operands b_states b_broughtIn r_x r_y r_z r_upBits r_steps r_first r_second H locs ls h hP hS hl
    unfold f_X1_bringIn_b189 at h
    refine lv_iconst (v := 1) hx hb dX1_bringIn_189 rfl ?_
    refine lv_goto (tgt := 194) hx hb dX1_bringIn_190 rfl ?_
    exact b194   x1 true b_operands b_states b_broughtIn r_x r_y r_z r_upBits r_steps r_first r_second _ _ _ h hP hS (lv_sub hl [0, 1] rfl)
  have b133 : ∀ (k7 : Int32 → Bool → Int32 → (Nat → Int32) → (Nat → Int32) → (Nat → Int32) → Int64 → Int64 → Int64 → Int32 → Int32 → Int64 → Int64 → Option ((Nat → Int32) × (Nat → Int32) × (Nat → Int32) × Int64 × Int64 × Int64 × Int32 × Int32 × Int64 × Int64)) (hk7 : ∀ (x1 : Int32) (x3 : Bool) (x4 : Int32) (b_operands : Nat → Int32) (b_states : Nat → Int32) (b_broughtIn : Nat → Int32) (r_x : Int64) (r_y : Int64) (r_z : Int64) (r_upBits : Int32) (r_steps : Int32) (r_first : Int64) (r_second : Int64) (H : Heap) (locs : List Loc) (ls : Array Slot), k7 x1 x3 x4 b_operands b_states b_broughtIn r_x r_y r_z r_upBits r_steps r_first r_second = some o → WP g A (wBT g a0 a1 a2 a3 a4 a5 a6 a7 a8 a9 a10 a11 a12 a13 a14 a15 b_jobs b_over b_clocks b_held b_kinds b_operands b_ties b_states b_gone b_toldIn b_broughtIn b_doneIn r_x r_y r_z r_upBits r_steps r_first r_second u_width u_guard u_bits u_stages u_places u_near u_quarter u_eighth u_ln u_shifts u_angles u_gains u_undos u_digits) H → va_S A s.heap H locs → lv_has ls 7 [(0, .ref a0), (1, .int x1), (2, .ref a9), (3, .int (bI x3)), (4, .int x4)] → W p l e rm_X1_bringIn s m args below meth c H locs 0 0 Q (F0 m 7 ls [])) , ∀ (x1 : Int32) (x3 : Bool) (x4 : Int32) (b_operands : Nat → Int32) (b_states : Nat → Int32) (b_broughtIn : Nat → Int32) (r_x : Int64) (r_y : Int64) (r_z : Int64) (r_upBits : Int32) (r_steps : Int32) (r_first : Int64) (r_second : Int64) (H : Heap) (locs : List Loc) (ls : Array Slot), f_X1_bringIn_b133  b_clocks b_kinds b_ties u_width u_guard u_bits u_stages u_near u_quarter u_ln u_shifts u_angles u_undos u_digits k7 x1 x3 x4 b_operands b_states b_broughtIn r_x r_y r_z r_upBits r_steps r_first r_second = some o → WP g A (wBT g a0 a1 a2 a3 a4 a5 a6 a7 a8 a9 a10 a11 a12 a13 a14 a15 b_jobs b_over b_clocks b_held b_kinds b_operands b_ties b_states b_gone b_toldIn b_broughtIn b_doneIn r_x r_y r_z r_upBits r_steps r_first r_second u_width u_guard u_bits u_stages u_places u_near u_quarter u_eighth u_ln u_shifts u_angles u_gains u_undos u_digits) H → va_S A s.heap H locs → lv_has ls 7 [(0, .ref a0), (1, .int x1), (2, .ref a9), (3, .int (bI x3)), (4, .int x4)] → W p l e rm_X1_bringIn s m args below meth c H locs 0 0 Q (F0 m 133 ls []) := by
    intro k7 hk7 x1 x3 x4 b_operands b_states b_broughtIn r_x r_y r_z r_upBits r_steps r_first r_second H locs ls h hP hS hl
    unfold f_X1_bringIn_b133 at h
    obtain ⟨v9, ev9⟩ : ∃ z : Int32, z = (x4 + 1) := ⟨_, rfl⟩
    have h := lt_at ev9 h
    refine lv_iinc (v := v9) (lv' := [(4, .int v9), (0, .ref a0), (1, .int x1), (2, .ref a9), (3, .int (bI x3))]) hx hb dX1_bringIn_133 hl (k := 4) rfl (by rw [ev9]; rfl) (by decide) rfl (fun ls hl => ?_)
    refine lv_goto (tgt := 7) hx hb dX1_bringIn_136 rfl ?_
    exact hk7 x1 x3 v9 b_operands b_states b_broughtIn r_x r_y r_z r_upBits r_steps r_first r_second _ _ _ h hP hS (lv_sub hl [1, 2, 3, 4, 0] rfl)
  have b120 : ∀ (k7 : Int32 → Bool → Int32 → (Nat → Int32) → (Nat → Int32) → (Nat → Int32) → Int64 → Int64 → Int64 → Int32 → Int32 → Int64 → Int64 → Option ((Nat → Int32) × (Nat → Int32) × (Nat → Int32) × Int64 × Int64 × Int64 × Int32 × Int32 × Int64 × Int64)) (hk7 : ∀ (x1 : Int32) (x3 : Bool) (x4 : Int32) (b_operands : Nat → Int32) (b_states : Nat → Int32) (b_broughtIn : Nat → Int32) (r_x : Int64) (r_y : Int64) (r_z : Int64) (r_upBits : Int32) (r_steps : Int32) (r_first : Int64) (r_second : Int64) (H : Heap) (locs : List Loc) (ls : Array Slot), k7 x1 x3 x4 b_operands b_states b_broughtIn r_x r_y r_z r_upBits r_steps r_first r_second = some o → WP g A (wBT g a0 a1 a2 a3 a4 a5 a6 a7 a8 a9 a10 a11 a12 a13 a14 a15 b_jobs b_over b_clocks b_held b_kinds b_operands b_ties b_states b_gone b_toldIn b_broughtIn b_doneIn r_x r_y r_z r_upBits r_steps r_first r_second u_width u_guard u_bits u_stages u_places u_near u_quarter u_eighth u_ln u_shifts u_angles u_gains u_undos u_digits) H → va_S A s.heap H locs → lv_has ls 7 [(0, .ref a0), (1, .int x1), (2, .ref a9), (3, .int (bI x3)), (4, .int x4)] → W p l e rm_X1_bringIn s m args below meth c H locs 0 0 Q (F0 m 7 ls [])) , ∀ (x1 : Int32) (x3 : Bool) (x4 : Int32) (b_operands : Nat → Int32) (b_states : Nat → Int32) (b_broughtIn : Nat → Int32) (r_x : Int64) (r_y : Int64) (r_z : Int64) (r_upBits : Int32) (r_steps : Int32) (r_first : Int64) (r_second : Int64) (H : Heap) (locs : List Loc) (ls : Array Slot), f_X1_bringIn_b120  b_clocks b_kinds b_ties u_width u_guard u_bits u_stages u_near u_quarter u_ln u_shifts u_angles u_undos u_digits k7 x1 x3 x4 b_operands b_states b_broughtIn r_x r_y r_z r_upBits r_steps r_first r_second = some o → WP g A (wBT g a0 a1 a2 a3 a4 a5 a6 a7 a8 a9 a10 a11 a12 a13 a14 a15 b_jobs b_over b_clocks b_held b_kinds b_operands b_ties b_states b_gone b_toldIn b_broughtIn b_doneIn r_x r_y r_z r_upBits r_steps r_first r_second u_width u_guard u_bits u_stages u_places u_near u_quarter u_eighth u_ln u_shifts u_angles u_gains u_undos u_digits) H → va_S A s.heap H locs → lv_has ls 7 [(0, .ref a0), (1, .int x1), (2, .ref a9), (3, .int (bI x3)), (4, .int x4)] → W p l e rm_X1_bringIn s m args below meth c H locs 0 0 Q (F0 m 120 ls []) := by
    intro k7 hk7 x1 x3 x4 b_operands b_states b_broughtIn r_x r_y r_z r_upBits r_steps r_first r_second H locs ls h hP hS hl
    unfold f_X1_bringIn_b120 at h
    refine lv_aload_n hx hb dX1_bringIn_120 rfl (lv_at hl 0 rfl) ?_
    refine gf_X1_18_BT_0 X hP dX1_bringIn_121 ?_
    refine lv_iload hx hb dX1_bringIn_124 (lv_at hl 4 rfl) ?_
    obtain ⟨hi126, h⟩ := gv_of h
    refine al_BT_3 X hP hi126 dX1_bringIn_126 ?_
    refine lv_iconst (v := (-1)) hx hb dX1_bringIn_127 rfl ?_
    refine jx1 h (P := fun (v8 : Bool) => ∀ ls : Array Slot, lv_has ls 7 [(0, .ref a0), (1, .int x1), (2, .ref a9), (3, .int (bI v8)), (4, .int x4)] → W p l e rm_X1_bringIn s m args below meth c H locs 0 0 Q (F0 m 133 ls [])) ?_ ?_
    · intro v8 h ls hl
      exact b133 k7 hk7  x1 v8 x4 b_operands b_states b_broughtIn r_x r_y r_z r_upBits r_steps r_first r_second _ _ _ h hP hS (lv_sub hl [0, 1, 2, 3, 4] rfl)
    · intro J h
      refine lv_icmp_eq (tgt := 133) hx hb dX1_bringIn_128 rfl (fun c128 => ?_) (fun c128 => ?_)
      · exact J _ (lt_ip c128 h) ls (lv_sub hl [0, 1, 2, 3, 4] rfl)
      · refine lv_iconst (v := 1) hx hb dX1_bringIn_131 rfl ?_
        refine lv_istore_n (lv' := [(3, .int 1), (0, .ref a0), (1, .int x1), (2, .ref a9), (4, .int x4)]) hx hb dX1_bringIn_132 rfl hl (by decide) rfl (fun ls hl => ?_)
        exact J _ (lt_in c128 h) ls (lv_sub hl [1, 2, 3, 0, 4] rfl)
  have l7 : ∀ (n : Nat), ∀ (x1 : Int32) (x3 : Bool) (x4 : Int32) (b_operands : Nat → Int32) (b_states : Nat → Int32) (b_broughtIn : Nat → Int32) (r_x : Int64) (r_y : Int64) (r_z : Int64) (r_upBits : Int32) (r_steps : Int32) (r_first : Int64) (r_second : Int64) (H : Heap) (locs : List Loc) (ls : Array Slot), f_X1_bringIn_l7  b_clocks b_kinds b_ties u_width u_guard u_bits u_stages u_near u_quarter u_ln u_shifts u_angles u_undos u_digits  n x1 x3 x4 b_operands b_states b_broughtIn r_x r_y r_z r_upBits r_steps r_first r_second = some o → WP g A (wBT g a0 a1 a2 a3 a4 a5 a6 a7 a8 a9 a10 a11 a12 a13 a14 a15 b_jobs b_over b_clocks b_held b_kinds b_operands b_ties b_states b_gone b_toldIn b_broughtIn b_doneIn r_x r_y r_z r_upBits r_steps r_first r_second u_width u_guard u_bits u_stages u_places u_near u_quarter u_eighth u_ln u_shifts u_angles u_gains u_undos u_digits) H → va_S A s.heap H locs → lv_has ls 7 [(0, .ref a0), (1, .int x1), (2, .ref a9), (3, .int (bI x3)), (4, .int x4)] → W p l e rm_X1_bringIn s m args below meth c H locs 0 0 Q (F0 m 7 ls []) := by
    intro  n
    induction n with
    | zero =>
      intro x1 x3 x4 b_operands b_states b_broughtIn r_x r_y r_z r_upBits r_steps r_first r_second H locs ls h
      exact nz_of h
    | succ n ih =>
      intro x1 x3 x4 b_operands b_states b_broughtIn r_x r_y r_z r_upBits r_steps r_first r_second H locs ls h hP hS hl
      rw [f_X1_bringIn_l7] at h
      refine lv_iload hx hb dX1_bringIn_7 (lv_at hl 4 rfl) ?_
      refine lv_iload_n hx hb dX1_bringIn_9 rfl (lv_at hl 1 rfl) ?_
      refine lv_iconst (v := 1) hx hb dX1_bringIn_10 rfl ?_
      refine lv_iadd hx hb dX1_bringIn_11 ?_
      refine lv_iconst (v := 3) hx hb dX1_bringIn_12 rfl ?_
      refine lv_imul hx hb dX1_bringIn_13 ?_
      refine lv_icmp_ge (tgt := 139) hx hb dX1_bringIn_14 rfl (fun c14 => ?_) (fun c14 => ?_)
      · have h := br_p c14 h
        refine lv_iload_n hx hb dX1_bringIn_139 rfl (lv_at hl 1 rfl) ?_
        refine lv_iconst (v := 3) hx hb dX1_bringIn_140 rfl ?_
        refine lv_imul hx hb dX1_bringIn_141 ?_
        refine lv_topi (fun v2 ev2 => ?_)
        have h := lt_at ev2 h
        refine lv_istore (lv' := [(4, .int v2), (0, .ref a0), (1, .int x1), (2, .ref a9), (3, .int (bI x3))]) hx hb dX1_bringIn_142 hl (by decide) rfl (fun ls hl => ?_)
        refine lv_iload_n hx hb dX1_bringIn_144 rfl (lv_at hl 4 rfl) ?_
        refine rb_ne (tgt := 189) hx hb dX1_bringIn_145 rfl (fun c145 => ?_) (fun c145 => ?_)
        · have h := br_p c145 h
          exact b189   x1 b_operands b_states b_broughtIn r_x r_y r_z r_upBits r_steps r_first r_second _ _ _ h hP hS (lv_sub hl [1, 2] rfl)
        · have h := br_n c145 h
          refine lv_aload_n hx hb dX1_bringIn_148 rfl (lv_at hl 3 rfl) ?_
          refine lv_aload_n hx hb dX1_bringIn_149 rfl (lv_at hl 1 rfl) ?_
          refine gf_X1_9_BT_0 X hP dX1_bringIn_150 ?_
          refine lv_iload_n hx hb dX1_bringIn_153 rfl (lv_at hl 2 rfl) ?_
          obtain ⟨hi154, h⟩ := gv_of h
          refine al_BT_1 X hP hi154 dX1_bringIn_154 ?_
          refine lv_aload_n hx hb dX1_bringIn_155 rfl (lv_at hl 1 rfl) ?_
          refine gf_X1_15_BT_0 X hP dX1_bringIn_156 ?_
          refine lv_iload hx hb dX1_bringIn_159 (lv_at hl 0 rfl) ?_
          obtain ⟨hi161, h⟩ := gv_of h
          refine al_BT_2 X hP hi161 dX1_bringIn_161 ?_
          refine lv_i2l hx hb dX1_bringIn_162 rfl ?_
          refine lv_aload_n hx hb dX1_bringIn_163 rfl (lv_at hl 1 rfl) ?_
          refine gf_X1_15_BT_0 X hP dX1_bringIn_164 ?_
          refine lv_iload hx hb dX1_bringIn_167 (lv_at hl 0 rfl) ?_
          refine lv_iconst (v := 1) hx hb dX1_bringIn_169 rfl ?_
          refine lv_iadd hx hb dX1_bringIn_170 ?_
          obtain ⟨hi171, h⟩ := gv_of h
          refine al_BT_2 X hP hi171 dX1_bringIn_171 ?_
          refine lv_i2l hx hb dX1_bringIn_172 rfl ?_
          refine lv_aload_n hx hb dX1_bringIn_173 rfl (lv_at hl 1 rfl) ?_
          refine gf_X1_15_BT_0 X hP dX1_bringIn_174 ?_
          refine lv_iload hx hb dX1_bringIn_177 (lv_at hl 0 rfl) ?_
          refine lv_iconst (v := 2) hx hb dX1_bringIn_179 rfl ?_
          refine lv_iadd hx hb dX1_bringIn_180 ?_
          obtain ⟨hi181, h⟩ := gv_of h
          refine al_BT_2 X hP hi181 dX1_bringIn_181 ?_
          refine lv_i2l hx hb dX1_bringIn_182 rfl ?_
          obtain ⟨o4, hco4, h⟩ := bd_of h
          obtain ⟨hF, hFA⟩ := fo_BT_Turner_9 hP
          refine kVN (rest := []) X dX1_bringIn_183 wd_4_121 mw_X7_fits wd_3_155 wp_3_10 hF (k0 := 0) rfl rfl rfl hS hFA (c_X7_fits hco4) rfl hl.1 rfl (Nat.le_of_ble_eq_true rfl) rfl rfl ⟨Nat.le_of_ble_eq_true rfl, Nat.le_of_ble_eq_true rfl⟩ (fun H locs hF1 _ hk hS => ?_)
          have hP := un_BT_Turner_9 hP hk hF1
          refine W.eq (g2 := F0 m 186 ls [.int (bI o4)]) rfl ?_
          refine jx1 h (P := fun (v5 : Bool) => ∀ ls : Array Slot, lv_has ls 7 [(0, .ref a0), (1, .int x1)] → W p l e rm_X1_bringIn s m args below meth c H locs 0 0 Q (F0 m 194 ls [.int (bI v5)])) ?_ ?_
          · intro v5 h ls hl
            refine lv_istore_n (lv' := [(3, .int (bI v5)), (0, .ref a0), (1, .int x1)]) hx hb dX1_bringIn_194 rfl hl (by decide) rfl (fun ls hl => ?_)
            refine lv_aload_n hx hb dX1_bringIn_195 rfl (lv_at hl 1 rfl) ?_
            refine gf_X1_21_BT_0 X hP dX1_bringIn_196 ?_
            refine lv_iload_n hx hb dX1_bringIn_199 rfl (lv_at hl 2 rfl) ?_
            refine lv_iload_n hx hb dX1_bringIn_200 rfl (lv_at hl 0 rfl) ?_
            refine jx1 h (P := fun (v6 : Int32) => ∀ ls : Array Slot, lv_has ls 7 [(0, .ref a0), (1, .int x1)] → W p l e rm_X1_bringIn s m args below meth c H locs 0 0 Q (F0 m 209 ls [.int v6, .int x1, .ref a4])) ?_ ?_
            · intro v6 h ls hl
              obtain ⟨hi209, h⟩ := gv_of h
              refine as_BT_4 (v0 := v6) X hP hS hi209 dX1_bringIn_209 (fun H locs hP hS => ?_)
              refine lv_aload_n hx hb dX1_bringIn_210 rfl (lv_at hl 0 rfl) ?_
              refine gf_X1_30_BT_0 X hP dX1_bringIn_211 ?_
              refine lv_iload_n hx hb dX1_bringIn_214 rfl (lv_at hl 1 rfl) ?_
              refine lv_aload_n hx hb dX1_bringIn_215 rfl (lv_at hl 0 rfl) ?_
              refine gf_X1_43_BT_0 X hP dX1_bringIn_216 ?_
              obtain ⟨hi219, h⟩ := gv_of h
              refine as_BT_7 (v0 := b_clocks) X hP hS hi219 dX1_bringIn_219 (fun H locs hP hS => ?_)
              exact ret h hP hS dX1_bringIn_220
            · intro J h
              refine rb_eq (tgt := 208) hx hb dX1_bringIn_201 rfl (fun c201 => ?_) (fun c201 => ?_)
              · refine lv_iconst (v := 1) hx hb dX1_bringIn_208 rfl ?_
                exact J _ (lt_in c201 h) ls (lv_sub hl [1, 2] rfl)
              · refine lv_iconst (v := 3) hx hb dX1_bringIn_204 rfl ?_
                refine lv_goto (tgt := 209) hx hb dX1_bringIn_205 rfl ?_
                exact J _ (lt_ip c201 h) ls (lv_sub hl [1, 2] rfl)
          · intro J h
            refine rb_ne (tgt := 193) hx hb dX1_bringIn_186 rfl (fun c186 => ?_) (fun c186 => ?_)
            · refine lv_iconst (v := 0) hx hb dX1_bringIn_193 rfl ?_
              exact J _ (lt_ip c186 h) ls (lv_sub hl [1, 2] rfl)
            · refine lv_iconst (v := 1) hx hb dX1_bringIn_189 rfl ?_
              refine lv_goto (tgt := 194) hx hb dX1_bringIn_190 rfl ?_
              exact J _ (lt_in c186 h) ls (lv_sub hl [1, 2] rfl)
      · have h := br_n c14 h
        refine lv_aload_n hx hb dX1_bringIn_17 rfl (lv_at hl 0 rfl) ?_
        refine gf_X1_18_BT_0 X hP dX1_bringIn_18 ?_
        refine lv_iload hx hb dX1_bringIn_21 (lv_at hl 4 rfl) ?_
        obtain ⟨hi23, h⟩ := gv_of h
        refine al_BT_3 X hP hi23 dX1_bringIn_23 ?_
        refine lv_iconst (v := 1) hx hb dX1_bringIn_24 rfl ?_
        refine lv_ishr hx hb dX1_bringIn_25 ?_
        refine lv_topi (fun v7 ev7 => ?_)
        have h := lt_at ev7 h
        refine lv_istore (lv' := [(5, .int v7), (0, .ref a0), (1, .int x1), (2, .ref a9), (3, .int (bI x3)), (4, .int x4)]) hx hb dX1_bringIn_26 hl (by decide) rfl (fun ls hl => ?_)
        refine lv_aload_n hx hb dX1_bringIn_28 rfl (lv_at hl 1 rfl) ?_
        refine gf_X1_18_BT_0 X hP dX1_bringIn_29 ?_
        refine lv_iload hx hb dX1_bringIn_32 (lv_at hl 5 rfl) ?_
        obtain ⟨hi34, h⟩ := gv_of h
        refine al_BT_3 X hP hi34 dX1_bringIn_34 ?_
        refine lv_iconst (v := (-1)) hx hb dX1_bringIn_35 rfl ?_
        refine lv_icmp_eq (tgt := 120) hx hb dX1_bringIn_36 rfl (fun c36 => ?_) (fun c36 => ?_)
        · have h := br_p c36 h
          exact b120 (f_X1_bringIn_l7  b_clocks b_kinds b_ties u_width u_guard u_bits u_stages u_near u_quarter u_ln u_shifts u_angles u_undos u_digits  n) ih  x1 x3 x4 b_operands b_states b_broughtIn r_x r_y r_z r_upBits r_steps r_first r_second _ _ _ h hP hS (lv_sub hl [1, 2, 3, 4, 5] rfl)
        · have h := br_n c36 h
          refine lv_aload_n hx hb dX1_bringIn_39 rfl (lv_at hl 1 rfl) ?_
          refine gf_X1_21_BT_0 X hP dX1_bringIn_40 ?_
          refine lv_iload hx hb dX1_bringIn_43 (lv_at hl 0 rfl) ?_
          obtain ⟨hi45, h⟩ := gv_of h
          refine al_BT_4 X hP hi45 dX1_bringIn_45 ?_
          refine lv_iconst (v := 2) hx hb dX1_bringIn_46 rfl ?_
          refine lv_icmp_ne (tgt := 120) hx hb dX1_bringIn_47 rfl (fun c47 => ?_) (fun c47 => ?_)
          · have h := br_n c47 h
            exact b120 (f_X1_bringIn_l7  b_clocks b_kinds b_ties u_width u_guard u_bits u_stages u_near u_quarter u_ln u_shifts u_angles u_undos u_digits  n) ih  x1 x3 x4 b_operands b_states b_broughtIn r_x r_y r_z r_upBits r_steps r_first r_second _ _ _ h hP hS (lv_sub hl [1, 2, 3, 4, 5] rfl)
          · have h := br_p c47 h
            refine lv_iload hx hb dX1_bringIn_50 (lv_at hl 0 rfl) ?_
            refine lv_iconst (v := 3) hx hb dX1_bringIn_52 rfl ?_
            refine lv_imul hx hb dX1_bringIn_53 ?_
            refine lv_topi (fun v10 ev10 => ?_)
            have h := lt_at ev10 h
            refine lv_istore (lv' := [(6, .int v10), (5, .int v7), (0, .ref a0), (1, .int x1), (2, .ref a9), (3, .int (bI x3)), (4, .int x4)]) hx hb dX1_bringIn_54 hl (by decide) rfl (fun ls hl => ?_)
            refine lv_aload_n hx hb dX1_bringIn_56 rfl (lv_at hl 4 rfl) ?_
            refine lv_aload_n hx hb dX1_bringIn_57 rfl (lv_at hl 2 rfl) ?_
            refine gf_X1_9_BT_0 X hP dX1_bringIn_58 ?_
            refine lv_iload hx hb dX1_bringIn_61 (lv_at hl 1 rfl) ?_
            obtain ⟨hi63, h⟩ := gv_of h
            refine al_BT_1 X hP hi63 dX1_bringIn_63 ?_
            refine lv_aload_n hx hb dX1_bringIn_64 rfl (lv_at hl 2 rfl) ?_
            refine gf_X1_15_BT_0 X hP dX1_bringIn_65 ?_
            refine lv_iload hx hb dX1_bringIn_68 (lv_at hl 0 rfl) ?_
            obtain ⟨hi70, h⟩ := gv_of h
            refine al_BT_2 X hP hi70 dX1_bringIn_70 ?_
            refine lv_i2l hx hb dX1_bringIn_71 rfl ?_
            refine lv_aload_n hx hb dX1_bringIn_72 rfl (lv_at hl 2 rfl) ?_
            refine gf_X1_15_BT_0 X hP dX1_bringIn_73 ?_
            refine lv_iload hx hb dX1_bringIn_76 (lv_at hl 0 rfl) ?_
            refine lv_iconst (v := 1) hx hb dX1_bringIn_78 rfl ?_
            refine lv_iadd hx hb dX1_bringIn_79 ?_
            obtain ⟨hi80, h⟩ := gv_of h
            refine al_BT_2 X hP hi80 dX1_bringIn_80 ?_
            refine lv_i2l hx hb dX1_bringIn_81 rfl ?_
            refine lv_aload_n hx hb dX1_bringIn_82 rfl (lv_at hl 2 rfl) ?_
            refine gf_X1_15_BT_0 X hP dX1_bringIn_83 ?_
            refine lv_iload hx hb dX1_bringIn_86 (lv_at hl 0 rfl) ?_
            refine lv_iconst (v := 2) hx hb dX1_bringIn_88 rfl ?_
            refine lv_iadd hx hb dX1_bringIn_89 ?_
            obtain ⟨hi90, h⟩ := gv_of h
            refine al_BT_2 X hP hi90 dX1_bringIn_90 ?_
            refine lv_i2l hx hb dX1_bringIn_91 rfl ?_
            obtain ⟨o11, hco11, h⟩ := bd_of h
            obtain ⟨hF, hFA⟩ := fo_BT_Turner_9 hP
            refine kVN (rest := []) X dX1_bringIn_92 wd_4_119 mw_X7_solve wd_3_151 wp_3_9 hF (k0 := 0) rfl rfl rfl hS hFA (c_X7_solve hco11) rfl hl.1 rfl (Nat.le_of_ble_eq_true rfl) rfl rfl ⟨Nat.le_of_ble_eq_true rfl, Nat.le_of_ble_eq_true rfl⟩ (fun H locs hF1 _ hk hS => ?_)
            have hP := un_BT_Turner_9 hP hk hF1
            refine W.eq (g2 := F0 m 95 ls [.int (bI o11.1)]) rfl ?_
            refine lv_pop hx hb dX1_bringIn_95 rfl ?_
            refine lv_aload_n hx hb dX1_bringIn_96 rfl (lv_at hl 2 rfl) ?_
            refine gf_X1_15_BT_0 X hP dX1_bringIn_97 ?_
            refine lv_iload hx hb dX1_bringIn_100 (lv_at hl 6 rfl) ?_
            refine lv_aload_n hx hb dX1_bringIn_102 rfl (lv_at hl 4 rfl) ?_
            refine lv_aload_n hx hb dX1_bringIn_103 rfl (lv_at hl 2 rfl) ?_
            refine gf_X1_18_BT_0 X hP dX1_bringIn_104 ?_
            refine lv_iload hx hb dX1_bringIn_107 (lv_at hl 6 rfl) ?_
            obtain ⟨hi109, h⟩ := gv_of h
            refine al_BT_3 X hP hi109 dX1_bringIn_109 ?_
            refine lv_iconst (v := 1) hx hb dX1_bringIn_110 rfl ?_
            refine lv_iand hx hb dX1_bringIn_111 ?_
            obtain ⟨o12, hco12, h⟩ := bd_of h
            obtain ⟨hF, hFA⟩ := fo_BT_Turner_9 hP
            refine kVN (rest := [.int x4, .ref a2]) X dX1_bringIn_112 wd_4_120 mw_X7_answer wd_4_11 wp_4_10 hF (k0 := 0) rfl rfl rfl hS hFA (c_X7_answer hco12) rfl hl.1 rfl (Nat.le_of_ble_eq_true rfl) rfl rfl ⟨Nat.le_of_ble_eq_true rfl, Nat.le_of_ble_eq_true rfl⟩ (fun H locs hF1 _ hk hS => ?_)
            have hP := un_BT_Turner_9 hP hk hF1
            refine W.eq (g2 := F0 m 115 ls [.long o12, .int x4, .ref a2]) rfl ?_
            refine lv_l2i hx hb dX1_bringIn_115 rfl ?_
            obtain ⟨hi116, h⟩ := gv_of h
            refine as_BT_2 (v0 := o12.toInt32) X hP hS hi116 dX1_bringIn_116 (fun H locs hP hS => ?_)
            refine lv_goto (tgt := 133) hx hb dX1_bringIn_117 rfl ?_
            exact b133 (f_X1_bringIn_l7  b_clocks b_kinds b_ties u_width u_guard u_bits u_stages u_near u_quarter u_ln u_shifts u_angles u_undos u_digits  n) ih  x1 x3 x4 (upd b_operands (x4).toNatClampNeg o12.toInt32) b_states b_broughtIn o11.2.1 o11.2.2.1 o11.2.2.2.1 o11.2.2.2.2.1 o11.2.2.2.2.2.1 o11.2.2.2.2.2.2.1 o11.2.2.2.2.2.2.2 _ _ _ h hP hS (lv_sub hl [2, 3, 4, 5, 6] rfl)
  unfold f_X1_bringIn at h
  refine lv_iconst (v := 0) hx hb dX1_bringIn_0 rfl ?_
  refine lv_istore_n (lv' := [(3, .int 0), (0, .ref a0), (1, .int p0), (2, .ref a9)]) hx hb dX1_bringIn_1 rfl hl (by decide) rfl (fun ls hl => ?_)
  refine lv_iload_n hx hb dX1_bringIn_2 rfl (lv_at hl 2 rfl) ?_
  refine lv_iconst (v := 3) hx hb dX1_bringIn_3 rfl ?_
  refine lv_imul hx hb dX1_bringIn_4 ?_
  refine lv_topi (fun v1 ev1 => ?_)
  have h := lt_at ev1 h
  refine lv_istore (lv' := [(4, .int v1), (3, .int 0), (0, .ref a0), (1, .int p0), (2, .ref a9)]) hx hb dX1_bringIn_5 hl (by decide) rfl (fun ls hl => ?_)
  exact l7  FU p0 false v1 b_operands b_states b_broughtIn r_x r_y r_z r_upBits r_steps r_first r_second _ _ _ h hP hS (lv_sub hl [2, 3, 4, 1, 0] rfl)
abbrev rm_X1_tick : Room := { frames := 6, cells := 0, slots := 0, locals := 160 }
set_option maxRecDepth 100000 in
set_option maxHeartbeats 4000000 in
theorem c_X1_tick {g : gT} {l : Launch} {A : Nat → Prop} {a0 a1 a2 a3 a4 a5 a6 a7 a8 a9 a10 a11 a12 a13 a14 a15 : Nat} {b_jobs : Int32} {b_over : Int32} {b_clocks : Int32} {b_held : Bool} {b_kinds : Nat → Int32} {b_operands : Nat → Int32} {b_ties : Nat → Int32} {b_states : Nat → Int32} {b_gone : Nat → Int32} {b_toldIn : Nat → Int32} {b_broughtIn : Nat → Int32} {b_doneIn : Nat → Int32} {r_x : Int64} {r_y : Int64} {r_z : Int64} {r_upBits : Int32} {r_steps : Int32} {r_first : Int64} {r_second : Int64} {u_width : Int32} {u_guard : Int32} {u_bits : Int32} {u_stages : Int32} {u_places : Int32} {u_near : Bool} {u_quarter : Int64} {u_eighth : Int64} {u_ln : Int64} {u_shifts : Nat → Int32} {u_angles : Nat → Int64} {u_gains : Nat → Int64} {u_undos : Nat → Int64} {u_digits : Nat → Int32}  {o : Int32 × Int32 × Int32 × (Nat → Int32) × (Nat → Int32) × (Nat → Int32) × (Nat → Int32) × (Nat → Int32) × Int64 × Int64 × Int64 × Int32 × Int32 × Int64 × Int64} (h : f_X1_tick  b_jobs b_over b_clocks b_held b_kinds b_operands b_ties b_states b_gone b_broughtIn b_doneIn r_x r_y r_z r_upBits r_steps r_first r_second u_width u_guard u_bits u_stages u_places u_near u_quarter u_ln u_shifts u_angles u_undos u_digits = some o) : Std g l yX1_tick (.code yX1_tick cX1_tick 4 (some .int) :: gw) rm_X1_tick A [.ref a0, .ref a9] (wBT g a0 a1 a2 a3 a4 a5 a6 a7 a8 a9 a10 a11 a12 a13 a14 a15 b_jobs b_over b_clocks b_held b_kinds b_operands b_ties b_states b_gone b_toldIn b_broughtIn b_doneIn r_x r_y r_z r_upBits r_steps r_first r_second u_width u_guard u_bits u_stages u_places u_near u_quarter u_eighth u_ln u_shifts u_angles u_gains u_undos u_digits) (wBT g a0 a1 a2 a3 a4 a5 a6 a7 a8 a9 a10 a11 a12 a13 a14 a15 b_jobs o.2.1 o.2.2.1 b_held b_kinds o.2.2.2.1 b_ties o.2.2.2.2.1 o.2.2.2.2.2.1 b_toldIn o.2.2.2.2.2.2.1 o.2.2.2.2.2.2.2.1 o.2.2.2.2.2.2.2.2.1 o.2.2.2.2.2.2.2.2.2.1 o.2.2.2.2.2.2.2.2.2.2.1 o.2.2.2.2.2.2.2.2.2.2.2.1 o.2.2.2.2.2.2.2.2.2.2.2.2.1 o.2.2.2.2.2.2.2.2.2.2.2.2.2.1 o.2.2.2.2.2.2.2.2.2.2.2.2.2.2 u_width u_guard u_bits u_stages u_places u_near u_quarter u_eighth u_ln u_shifts u_angles u_gains u_undos u_digits) (some (.int o.1)) := by
  refine std_i (own := RX1) (by decide +kernel) rfl (Nat.le_of_ble_eq_true rfl) ?_
  intro p e s m args below meth c Q X ret H locs hP hS ls hl
  have hx := X.1
  have hb := X.2.1
  have hl : lv_has ls 4 [(0, .ref a0), (1, .ref a9)] := hl
  have ret : ∀ {H : Heap} {locs : List Loc} {pc : Nat} {ls : Array Slot} {v : Int32} {b_over : Int32} {b_clocks : Int32} {b_operands : Nat → Int32} {b_states : Nat → Int32} {b_gone : Nat → Int32} {b_broughtIn : Nat → Int32} {b_doneIn : Nat → Int32} {r_x : Int64} {r_y : Int64} {r_z : Int64} {r_upBits : Int32} {r_steps : Int32} {r_first : Int64} {r_second : Int64}, some (v, b_over, b_clocks, b_operands, b_states, b_gone, b_broughtIn, b_doneIn, r_x, r_y, r_z, r_upBits, r_steps, r_first, r_second) = some o → WP g A (wBT g a0 a1 a2 a3 a4 a5 a6 a7 a8 a9 a10 a11 a12 a13 a14 a15 b_jobs b_over b_clocks b_held b_kinds b_operands b_ties b_states b_gone b_toldIn b_broughtIn b_doneIn r_x r_y r_z r_upBits r_steps r_first r_second u_width u_guard u_bits u_stages u_places u_near u_quarter u_eighth u_ln u_shifts u_angles u_gains u_undos u_digits) H → va_S A s.heap H locs → decode cX1_tick pc = .ok (.ireturn, 1) → W p l e rm_X1_tick s m args below meth c H locs 0 0 Q (F0 m pc ls [.int v]) := by
    intro H locs pc ls v b_over b_clocks b_operands b_states b_gone b_broughtIn b_doneIn r_x r_y r_z r_upBits r_steps r_first r_second h hP hS hd
    cases h
    exact ret hP hS hd
  have b78 : ∀ (x2 : Int32) (b_over : Int32) (b_clocks : Int32) (b_operands : Nat → Int32) (b_states : Nat → Int32) (b_gone : Nat → Int32) (b_broughtIn : Nat → Int32) (b_doneIn : Nat → Int32) (r_x : Int64) (r_y : Int64) (r_z : Int64) (r_upBits : Int32) (r_steps : Int32) (r_first : Int64) (r_second : Int64) (H : Heap) (locs : List Loc) (ls : Array Slot), f_X1_tick_b78  b_jobs b_held b_kinds b_ties u_width u_guard u_bits u_stages u_places u_near u_quarter u_ln u_shifts u_angles u_undos u_digits  x2 b_over b_clocks b_operands b_states b_gone b_broughtIn b_doneIn r_x r_y r_z r_upBits r_steps r_first r_second = some o → WP g A (wBT g a0 a1 a2 a3 a4 a5 a6 a7 a8 a9 a10 a11 a12 a13 a14 a15 b_jobs b_over b_clocks b_held b_kinds b_operands b_ties b_states b_gone b_toldIn b_broughtIn b_doneIn r_x r_y r_z r_upBits r_steps r_first r_second u_width u_guard u_bits u_stages u_places u_near u_quarter u_eighth u_ln u_shifts u_angles u_gains u_undos u_digits) H → va_S A s.heap H locs → lv_has ls 4 [(2, .int x2)] → W p l e rm_X1_tick s m args below meth c H locs 0 0 Q (F0 m 78 ls []) := by
    intro  x2 b_over b_clocks b_operands b_states b_gone b_broughtIn b_doneIn r_x r_y r_z r_upBits r_steps r_first r_second H locs ls h hP hS hl
    unfold f_X1_tick_b78 at h
    refine lv_iload_n hx hb dX1_tick_78 rfl (lv_at hl 0 rfl) ?_
    exact ret h hP hS dX1_tick_79
  unfold f_X1_tick at h
  refine lv_aload_n hx hb dX1_tick_0 rfl (lv_at hl 0 rfl) ?_
  refine lv_dup hx hb dX1_tick_1 rfl ?_
  refine gf_X1_43_BT_0 X hP dX1_tick_2 ?_
  refine lv_iconst (v := 1) hx hb dX1_tick_5 rfl ?_
  refine lv_iadd hx hb dX1_tick_6 ?_
  refine lv_topi (fun v1 ev1 => ?_)
  have h := lt_at ev1 h
  refine pf_X1_43_BT_0 (v0 := v1) X hP hS dX1_tick_7 (fun H locs hP hS => ?_)
  refine lv_aload_n hx hb dX1_tick_10 rfl (lv_at hl 0 rfl) ?_
  refine gf_X1_46_BT_0 X hP dX1_tick_11 ?_
  refine rb_eq (tgt := 19) hx hb dX1_tick_14 rfl (fun c14 => ?_) (fun c14 => ?_)
  · have h := br_n c14 h
    refine lv_aload_n hx hb dX1_tick_19 rfl (lv_at hl 0 rfl) ?_
    obtain ⟨o2, hco2, h⟩ := bd_of h
    obtain ⟨hF, hFA⟩ := fo_BT_Book_0 hP
    refine kV (rest := []) X dX1_tick_20 wd_4_95 mw_X1_isBusy wd_4_97 wp_5_7 hF (k0 := 0) rfl rfl rfl hS hFA (c_X1_isBusy hco2) rfl hl.1 rfl (Nat.le_of_ble_eq_true rfl) rfl rfl ⟨Nat.le_of_ble_eq_true rfl, Nat.le_of_ble_eq_true rfl⟩ (fun H locs hF1 _ hk hS => ?_)
    have hP := un_BT_Book_0 hP hk hF1
    refine W.eq (g2 := F0 m 23 ls [.int (bI o2.1)]) rfl ?_
    refine rb_ne (tgt := 28) hx hb dX1_tick_23 rfl (fun c23 => ?_) (fun c23 => ?_)
    · have h := br_p c23 h
      refine lv_aload_n hx hb dX1_tick_28 rfl (lv_at hl 0 rfl) ?_
      refine lv_aload_n hx hb dX1_tick_29 rfl (lv_at hl 1 rfl) ?_
      refine gf_X1_68_BT_9 X hP dX1_tick_30 ?_
      refine gf_X1_56_BT_10 X hP dX1_tick_33 ?_
      obtain ⟨o3, hco3, h⟩ := bd_of h
      obtain ⟨hF, hFA⟩ := fo_BT_Book_0 hP
      refine kV (rest := []) X dX1_tick_36 wd_4_99 mw_X1_goOn wd_4_101 wp_5_8 hF (k0 := 0) rfl rfl rfl hS hFA (c_X1_goOn hco3) rfl hl.1 rfl (Nat.le_of_ble_eq_true rfl) rfl rfl ⟨Nat.le_of_ble_eq_true rfl, Nat.le_of_ble_eq_true rfl⟩ (fun H locs hF1 _ hk hS => ?_)
      have hP := un_BT_Book_0 hP hk hF1
      refine W.eq (g2 := F0 m 39 ls [.int o3.1]) rfl ?_
      refine lv_istore_n (lv' := [(2, .int o3.1), (0, .ref a0), (1, .ref a9)]) hx hb dX1_tick_39 rfl hl (by decide) rfl (fun ls hl => ?_)
      refine lv_aload_n hx hb dX1_tick_40 rfl (lv_at hl 1 rfl) ?_
      refine lv_iconst (v := 0) hx hb dX1_tick_41 rfl ?_
      obtain ⟨o4, hco4, h⟩ := bd_of h
      obtain ⟨hF, hFA⟩ := fo_BT_Book_0 hP
      refine kV (rest := []) X dX1_tick_42 wd_4_103 mw_X1_waiting wd_4_105 wp_5_9 hF (k0 := 0) rfl rfl rfl hS hFA (c_X1_waiting hco4) rfl hl.1 rfl (Nat.le_of_ble_eq_true rfl) rfl rfl ⟨Nat.le_of_ble_eq_true rfl, Nat.le_of_ble_eq_true rfl⟩ (fun H locs hF1 _ hk hS => ?_)
      have hP := un_BT_Book_0 hP hk hF1
      refine W.eq (g2 := F0 m 45 ls [.int o4]) rfl ?_
      refine lv_istore_n (lv' := [(3, .int o4), (2, .int o3.1), (0, .ref a0), (1, .ref a9)]) hx hb dX1_tick_45 rfl hl (by decide) rfl (fun ls hl => ?_)
      refine lv_iload_n hx hb dX1_tick_46 rfl (lv_at hl 0 rfl) ?_
      refine lv_iconst (v := (-1)) hx hb dX1_tick_47 rfl ?_
      refine lv_icmp_eq (tgt := 78) hx hb dX1_tick_48 rfl (fun c48 => ?_) (fun c48 => ?_)
      · have h := br_p c48 h
        exact b78   o3.1 o2.2 v1 b_operands o3.2.1 o3.2.2.1 b_broughtIn o3.2.2.2 r_x r_y r_z r_upBits r_steps r_first r_second _ _ _ h hP hS (lv_sub hl [1] rfl)
      · have h := br_n c48 h
        refine lv_aload_n hx hb dX1_tick_51 rfl (lv_at hl 2 rfl) ?_
        refine lv_iconst (v := 0) hx hb dX1_tick_52 rfl ?_
        refine lv_aload_n hx hb dX1_tick_53 rfl (lv_at hl 3 rfl) ?_
        refine gf_X1_68_BT_9 X hP dX1_tick_54 ?_
        obtain ⟨o5, hco5, h⟩ := bd_of h
        obtain ⟨hF, hFA⟩ := fo_BT_BU_0_10 hP
        refine kV (rest := []) X dX1_tick_57 wd_4_107 mw_X1_standsIn wd_4_109 wp_5_10 hF (k0 := 0) rfl rfl rfl hS hFA (c_X1_standsIn hco5) rfl hl.1 rfl (Nat.le_of_ble_eq_true rfl) rfl rfl ⟨Nat.le_of_ble_eq_true rfl, Nat.le_of_ble_eq_true rfl⟩ (fun H locs hF1 _ hk hS => ?_)
        have hP := un_BT_BU_0_10 hP hk hF1
        refine W.eq (g2 := F0 m 60 ls [.int o5]) rfl ?_
        refine lv_iconst (v := (-1)) hx hb dX1_tick_60 rfl ?_
        refine lv_icmp_ne (tgt := 78) hx hb dX1_tick_61 rfl (fun c61 => ?_) (fun c61 => ?_)
        · have h := br_n c61 h
          exact b78   o3.1 o2.2 v1 b_operands o3.2.1 o3.2.2.1 b_broughtIn o3.2.2.2 r_x r_y r_z r_upBits r_steps r_first r_second _ _ _ h hP hS (lv_sub hl [1] rfl)
        · have h := br_p c61 h
          refine lv_aload_n hx hb dX1_tick_64 rfl (lv_at hl 2 rfl) ?_
          refine lv_iload_n hx hb dX1_tick_65 rfl (lv_at hl 0 rfl) ?_
          obtain ⟨o6, hco6, h⟩ := bd_of h
          obtain ⟨hF, hFA⟩ := fo_BT_Book_0 hP
          refine kV (rest := []) X dX1_tick_66 wd_4_111 mw_X1_mustWait wd_4_113 wp_5_11 hF (k0 := 0) rfl rfl rfl hS hFA (c_X1_mustWait hco6) rfl hl.1 rfl (Nat.le_of_ble_eq_true rfl) rfl rfl ⟨Nat.le_of_ble_eq_true rfl, Nat.le_of_ble_eq_true rfl⟩ (fun H locs hF1 _ hk hS => ?_)
          have hP := un_BT_Book_0 hP hk hF1
          refine W.eq (g2 := F0 m 69 ls [.int (bI o6)]) rfl ?_
          refine rb_ne (tgt := 78) hx hb dX1_tick_69 rfl (fun c69 => ?_) (fun c69 => ?_)
          · have h := br_p c69 h
            exact b78   o3.1 o2.2 v1 b_operands o3.2.1 o3.2.2.1 b_broughtIn o3.2.2.2 r_x r_y r_z r_upBits r_steps r_first r_second _ _ _ h hP hS (lv_sub hl [1] rfl)
          · have h := br_n c69 h
            refine lv_aload_n hx hb dX1_tick_72 rfl (lv_at hl 2 rfl) ?_
            refine lv_iload_n hx hb dX1_tick_73 rfl (lv_at hl 0 rfl) ?_
            refine lv_aload_n hx hb dX1_tick_74 rfl (lv_at hl 3 rfl) ?_
            obtain ⟨o7, hco7, h⟩ := bd_of h
            refine kV (rest := []) X dX1_tick_75 wd_4_115 mw_X1_bringIn wd_4_117 wp_5_12 hP (k0 := 0) rfl rfl rfl hS (fun _ z => z) (c_X1_bringIn hco7) rfl hl.1 rfl (Nat.le_of_ble_eq_true rfl) rfl rfl ⟨Nat.le_of_ble_eq_true rfl, Nat.le_of_ble_eq_true rfl⟩ (fun H locs hP _ _ hS => ?_)
            refine W.eq (g2 := F0 m 78 ls []) rfl ?_
            exact b78   o3.1 o2.2 v1 o7.1 o7.2.1 o3.2.2.1 o7.2.2.1 o3.2.2.2 o7.2.2.2.1 o7.2.2.2.2.1 o7.2.2.2.2.2.1 o7.2.2.2.2.2.2.1 o7.2.2.2.2.2.2.2.1 o7.2.2.2.2.2.2.2.2.1 o7.2.2.2.2.2.2.2.2.2 _ _ _ h hP hS (lv_sub hl [1] rfl)
    · have h := br_n c23 h
      refine lv_iconst (v := 0) hx hb dX1_tick_26 rfl ?_
      exact ret h hP hS dX1_tick_27
  · have h := br_p c14 h
    refine lv_iconst (v := 0) hx hb dX1_tick_17 rfl ?_
    exact ret h hP hS dX1_tick_18
abbrev rm_X1_turnAgain : Room := { frames := 4, cells := 0, slots := 0, locals := 107 }
set_option maxRecDepth 100000 in
set_option maxHeartbeats 4000000 in
theorem c_X1_turnAgain {g : gT} {l : Launch} {A : Nat → Prop} {a0 a1 a2 a3 a4 a5 a6 a7 a8 a9 a10 a11 a12 a13 a14 a15 : Nat} {b_jobs : Int32} {b_over : Int32} {b_clocks : Int32} {b_held : Bool} {b_kinds : Nat → Int32} {b_operands : Nat → Int32} {b_ties : Nat → Int32} {b_states : Nat → Int32} {b_gone : Nat → Int32} {b_toldIn : Nat → Int32} {b_broughtIn : Nat → Int32} {b_doneIn : Nat → Int32} {r_x : Int64} {r_y : Int64} {r_z : Int64} {r_upBits : Int32} {r_steps : Int32} {r_first : Int64} {r_second : Int64} {u_width : Int32} {u_guard : Int32} {u_bits : Int32} {u_stages : Int32} {u_places : Int32} {u_near : Bool} {u_quarter : Int64} {u_eighth : Int64} {u_ln : Int64} {u_shifts : Nat → Int32} {u_angles : Nat → Int64} {u_gains : Nat → Int64} {u_undos : Nat → Int64} {u_digits : Nat → Int32} {p0 : Int32} {p2 : Int32} {o : Int64 × Int64 × Int64 × Int32 × Int32 × Int64 × Int64} (h : f_X1_turnAgain p0 p2 b_kinds b_operands r_x r_y r_z r_upBits r_steps r_first r_second u_guard u_bits u_near u_quarter u_ln u_shifts u_angles u_undos = some o) : Std g l yX1_turnAgain (.code yX1_turnAgain cX1_turnAgain 5 none :: gw) rm_X1_turnAgain A [.ref a0, .int p0, .ref a9, .int p2] (wBT g a0 a1 a2 a3 a4 a5 a6 a7 a8 a9 a10 a11 a12 a13 a14 a15 b_jobs b_over b_clocks b_held b_kinds b_operands b_ties b_states b_gone b_toldIn b_broughtIn b_doneIn r_x r_y r_z r_upBits r_steps r_first r_second u_width u_guard u_bits u_stages u_places u_near u_quarter u_eighth u_ln u_shifts u_angles u_gains u_undos u_digits) (wBT g a0 a1 a2 a3 a4 a5 a6 a7 a8 a9 a10 a11 a12 a13 a14 a15 b_jobs b_over b_clocks b_held b_kinds b_operands b_ties b_states b_gone b_toldIn b_broughtIn b_doneIn o.1 o.2.1 o.2.2.1 o.2.2.2.1 o.2.2.2.2.1 o.2.2.2.2.2.1 o.2.2.2.2.2.2 u_width u_guard u_bits u_stages u_places u_near u_quarter u_eighth u_ln u_shifts u_angles u_gains u_undos u_digits) none := by
  refine std_v (own := RX1) (by decide +kernel) rfl (Nat.le_of_ble_eq_true rfl) ?_
  intro p e s m args below meth c Q X ret H locs hP hS ls hl
  have hx := X.1
  have hb := X.2.1
  have hl : lv_has ls 5 [(0, .ref a0), (1, .int p0), (2, .ref a9), (3, .int p2)] := hl
  have ret : ∀ {H : Heap} {locs : List Loc} {pc : Nat} {ls : Array Slot} {r_x : Int64} {r_y : Int64} {r_z : Int64} {r_upBits : Int32} {r_steps : Int32} {r_first : Int64} {r_second : Int64}, some (r_x, r_y, r_z, r_upBits, r_steps, r_first, r_second) = some o → WP g A (wBT g a0 a1 a2 a3 a4 a5 a6 a7 a8 a9 a10 a11 a12 a13 a14 a15 b_jobs b_over b_clocks b_held b_kinds b_operands b_ties b_states b_gone b_toldIn b_broughtIn b_doneIn r_x r_y r_z r_upBits r_steps r_first r_second u_width u_guard u_bits u_stages u_places u_near u_quarter u_eighth u_ln u_shifts u_angles u_gains u_undos u_digits) H → va_S A s.heap H locs → decode cX1_turnAgain pc = .ok (.return_, 1) → W p l e rm_X1_turnAgain s m args below meth c H locs 0 0 Q (F0 m pc ls []) := by
    intro H locs pc ls r_x r_y r_z r_upBits r_steps r_first r_second h hP hS hd
    cases h
    exact ret hP hS hd
  unfold f_X1_turnAgain at h
  refine lv_iload_n hx hb dX1_turnAgain_0 rfl (lv_at hl 1 rfl) ?_
  refine lv_iconst (v := 3) hx hb dX1_turnAgain_1 rfl ?_
  refine lv_imul hx hb dX1_turnAgain_2 ?_
  refine lv_topi (fun v1 ev1 => ?_)
  have h := lt_at ev1 h
  refine lv_istore (lv' := [(4, .int v1), (0, .ref a0), (1, .int p0), (2, .ref a9), (3, .int p2)]) hx hb dX1_turnAgain_3 hl (by decide) rfl (fun ls hl => ?_)
  refine lv_aload_n hx hb dX1_turnAgain_5 rfl (lv_at hl 3 rfl) ?_
  refine lv_aload_n hx hb dX1_turnAgain_6 rfl (lv_at hl 1 rfl) ?_
  refine gf_X1_9_BT_0 X hP dX1_turnAgain_7 ?_
  refine lv_iload_n hx hb dX1_turnAgain_10 rfl (lv_at hl 2 rfl) ?_
  obtain ⟨hi11, h⟩ := gv_of h
  refine al_BT_1 X hP hi11 dX1_turnAgain_11 ?_
  refine lv_aload_n hx hb dX1_turnAgain_12 rfl (lv_at hl 1 rfl) ?_
  refine gf_X1_15_BT_0 X hP dX1_turnAgain_13 ?_
  refine lv_iload hx hb dX1_turnAgain_16 (lv_at hl 0 rfl) ?_
  obtain ⟨hi18, h⟩ := gv_of h
  refine al_BT_2 X hP hi18 dX1_turnAgain_18 ?_
  refine lv_i2l hx hb dX1_turnAgain_19 rfl ?_
  refine lv_aload_n hx hb dX1_turnAgain_20 rfl (lv_at hl 1 rfl) ?_
  refine gf_X1_15_BT_0 X hP dX1_turnAgain_21 ?_
  refine lv_iload hx hb dX1_turnAgain_24 (lv_at hl 0 rfl) ?_
  refine lv_iconst (v := 1) hx hb dX1_turnAgain_26 rfl ?_
  refine lv_iadd hx hb dX1_turnAgain_27 ?_
  obtain ⟨hi28, h⟩ := gv_of h
  refine al_BT_2 X hP hi28 dX1_turnAgain_28 ?_
  refine lv_i2l hx hb dX1_turnAgain_29 rfl ?_
  refine lv_aload_n hx hb dX1_turnAgain_30 rfl (lv_at hl 1 rfl) ?_
  refine gf_X1_15_BT_0 X hP dX1_turnAgain_31 ?_
  refine lv_iload hx hb dX1_turnAgain_34 (lv_at hl 0 rfl) ?_
  refine lv_iconst (v := 2) hx hb dX1_turnAgain_36 rfl ?_
  refine lv_iadd hx hb dX1_turnAgain_37 ?_
  obtain ⟨hi38, h⟩ := gv_of h
  refine al_BT_2 X hP hi38 dX1_turnAgain_38 ?_
  refine lv_i2l hx hb dX1_turnAgain_39 rfl ?_
  obtain ⟨o2, hco2, h⟩ := bd_of h
  obtain ⟨hF, hFA⟩ := fo_BT_Turner_9 hP
  refine kVN (rest := []) X dX1_turnAgain_40 wd_4_143 mw_X7_begin wd_3_175 wp_3_12 hF (k0 := 0) rfl rfl rfl hS hFA (c_X7_begin hco2) rfl hl.1 rfl (Nat.le_of_ble_eq_true rfl) rfl rfl ⟨Nat.le_of_ble_eq_true rfl, Nat.le_of_ble_eq_true rfl⟩ (fun H locs hF1 _ hk hS => ?_)
  have hP := un_BT_Turner_9 hP hk hF1
  refine W.eq (g2 := F0 m 43 ls []) rfl ?_
  refine lv_aload_n hx hb dX1_turnAgain_43 rfl (lv_at hl 3 rfl) ?_
  refine lv_aload_n hx hb dX1_turnAgain_44 rfl (lv_at hl 1 rfl) ?_
  refine gf_X1_9_BT_0 X hP dX1_turnAgain_45 ?_
  refine lv_iload_n hx hb dX1_turnAgain_48 rfl (lv_at hl 2 rfl) ?_
  obtain ⟨hi49, h⟩ := gv_of h
  refine al_BT_1 X hP hi49 dX1_turnAgain_49 ?_
  refine lv_iload_n hx hb dX1_turnAgain_50 rfl (lv_at hl 4 rfl) ?_
  obtain ⟨o3, hco3, h⟩ := bd_of h
  obtain ⟨hF, hFA⟩ := fo_BT_Turner_9 hP
  refine kVN (rest := []) X dX1_turnAgain_51 wd_4_144 mw_X7_goThrough wd_3_238 wp_4_7 hF (k0 := 0) rfl rfl rfl hS hFA (c_X7_goThrough hco3) rfl hl.1 rfl (Nat.le_of_ble_eq_true rfl) rfl rfl ⟨Nat.le_of_ble_eq_true rfl, Nat.le_of_ble_eq_true rfl⟩ (fun H locs hF1 _ hk hS => ?_)
  have hP := un_BT_Turner_9 hP hk hF1
  refine W.eq (g2 := F0 m 54 ls []) rfl ?_
  exact ret h hP hS dX1_turnAgain_54
abbrev rm_J9_max_f86c9 : Room := { frames := 0, cells := 0, slots := 0, locals := 0 }
set_option maxRecDepth 100000 in
set_option maxHeartbeats 4000000 in
theorem c_J9_max_f86c9 {g : gT} {l : Launch} {A : Nat → Prop} {w : va_W} {p0 : Int64} {p1 : Int64} {o : Int64} (h : f_J9_max_f86c9 p0 p1  = some o) : Std g l yJ9_max_f86c9 (.code yJ9_max_f86c9 cJ9_max_f86c9 4 (some .long) :: gw) rm_J9_max_f86c9 A [.long p0, .long p1] w w (some (.long o)) := by
  refine std_l (own := RJ9) (by decide +kernel) rfl (Nat.le_of_ble_eq_true rfl) ?_
  intro p e s m args below meth c Q X ret H locs hP hS ls hl
  have hx := X.1
  have hb := X.2.1
  have hl : lv_has ls 4 [(0, .long p0), (2, .long p1)] := hl
  have ret : ∀ {H : Heap} {locs : List Loc} {pc : Nat} {ls : Array Slot} {v : Int64} , some (v) = some o → WP g A w H → va_S A s.heap H locs → decode cJ9_max_f86c9 pc = .ok (.lreturn, 1) → W p l e rm_J9_max_f86c9 s m args below meth c H locs 0 0 Q (F0 m pc ls [.long v]) := by
    intro H locs pc ls v h hP hS hd
    cases h
    exact ret hP hS hd
  unfold f_J9_max_f86c9 at h
  refine lv_lload_n hx hb dJ9_max_f86c9_0 rfl (lv_at hl 0 rfl) ?_
  refine lv_lload_n hx hb dJ9_max_f86c9_1 rfl (lv_at hl 1 rfl) ?_
  refine jx1 h (P := fun (v1 : Int64) => ∀ ls : Array Slot, lv_has ls 4 [] → W p l e rm_J9_max_f86c9 s m args below meth c H locs 0 0 Q (F0 m 11 ls [.long v1])) ?_ ?_
  · intro v1 h ls hl
    exact ret h hP hS dJ9_max_f86c9_11
  · intro J h
    refine rl_lt (tgt := 10) hx hb dJ9_max_f86c9_2 dJ9_max_f86c9_3 rfl (fun c2 => ?_) (fun c2 => ?_)
    · refine lv_lload_n hx hb dJ9_max_f86c9_10 rfl (lv_at hl 1 rfl) ?_
      exact J _ (lt_ip c2 h) ls (lv_sub hl [] rfl)
    · refine lv_lload_n hx hb dJ9_max_f86c9_6 rfl (lv_at hl 0 rfl) ?_
      refine lv_goto (tgt := 11) hx hb dJ9_max_f86c9_7 rfl ?_
      exact J _ (lt_in c2 h) ls (lv_sub hl [] rfl)
abbrev rm_X1_greatestLeft : Room := { frames := 5, cells := 0, slots := 0, locals := 131 }
set_option maxRecDepth 100000 in
set_option maxHeartbeats 4000000 in
theorem c_X1_greatestLeft {g : gT} {l : Launch} {A : Nat → Prop} {a0 a1 a2 a3 a4 a5 a6 a7 a8 a9 a10 a11 a12 a13 a14 a15 : Nat} {b_jobs : Int32} {b_over : Int32} {b_clocks : Int32} {b_held : Bool} {b_kinds : Nat → Int32} {b_operands : Nat → Int32} {b_ties : Nat → Int32} {b_states : Nat → Int32} {b_gone : Nat → Int32} {b_toldIn : Nat → Int32} {b_broughtIn : Nat → Int32} {b_doneIn : Nat → Int32} {r_x : Int64} {r_y : Int64} {r_z : Int64} {r_upBits : Int32} {r_steps : Int32} {r_first : Int64} {r_second : Int64} {u_width : Int32} {u_guard : Int32} {u_bits : Int32} {u_stages : Int32} {u_places : Int32} {u_near : Bool} {u_quarter : Int64} {u_eighth : Int64} {u_ln : Int64} {u_shifts : Nat → Int32} {u_angles : Nat → Int64} {u_gains : Nat → Int64} {u_undos : Nat → Int64} {u_digits : Nat → Int32} {p1 : Bool} {o : Int64 × Int64 × Int64 × Int64 × Int32 × Int32 × Int64 × Int64} (h : f_X1_greatestLeft p1 b_jobs b_kinds b_operands b_states r_x r_y r_z r_upBits r_steps r_first r_second u_guard u_bits u_stages u_near u_quarter u_ln u_shifts u_angles u_undos = some o) : Std g l yX1_greatestLeft (.code yX1_greatestLeft cX1_greatestLeft 6 (some .long) :: gw) rm_X1_greatestLeft A [.ref a0, .ref a9, .int (bI p1)] (wBT g a0 a1 a2 a3 a4 a5 a6 a7 a8 a9 a10 a11 a12 a13 a14 a15 b_jobs b_over b_clocks b_held b_kinds b_operands b_ties b_states b_gone b_toldIn b_broughtIn b_doneIn r_x r_y r_z r_upBits r_steps r_first r_second u_width u_guard u_bits u_stages u_places u_near u_quarter u_eighth u_ln u_shifts u_angles u_gains u_undos u_digits) (wBT g a0 a1 a2 a3 a4 a5 a6 a7 a8 a9 a10 a11 a12 a13 a14 a15 b_jobs b_over b_clocks b_held b_kinds b_operands b_ties b_states b_gone b_toldIn b_broughtIn b_doneIn o.2.1 o.2.2.1 o.2.2.2.1 o.2.2.2.2.1 o.2.2.2.2.2.1 o.2.2.2.2.2.2.1 o.2.2.2.2.2.2.2 u_width u_guard u_bits u_stages u_places u_near u_quarter u_eighth u_ln u_shifts u_angles u_gains u_undos u_digits) (some (.long o.1)) := by
  refine std_l (own := RX1) (by decide +kernel) rfl (Nat.le_of_ble_eq_true rfl) ?_
  intro p e s m args below meth c Q X ret H locs hP hS ls hl
  have hx := X.1
  have hb := X.2.1
  have hl : lv_has ls 6 [(0, .ref a0), (1, .ref a9), (2, .int (bI p1))] := hl
  have ret : ∀ {H : Heap} {locs : List Loc} {pc : Nat} {ls : Array Slot} {v : Int64} {r_x : Int64} {r_y : Int64} {r_z : Int64} {r_upBits : Int32} {r_steps : Int32} {r_first : Int64} {r_second : Int64}, some (v, r_x, r_y, r_z, r_upBits, r_steps, r_first, r_second) = some o → WP g A (wBT g a0 a1 a2 a3 a4 a5 a6 a7 a8 a9 a10 a11 a12 a13 a14 a15 b_jobs b_over b_clocks b_held b_kinds b_operands b_ties b_states b_gone b_toldIn b_broughtIn b_doneIn r_x r_y r_z r_upBits r_steps r_first r_second u_width u_guard u_bits u_stages u_places u_near u_quarter u_eighth u_ln u_shifts u_angles u_gains u_undos u_digits) H → va_S A s.heap H locs → decode cX1_greatestLeft pc = .ok (.lreturn, 1) → W p l e rm_X1_greatestLeft s m args below meth c H locs 0 0 Q (F0 m pc ls [.long v]) := by
    intro H locs pc ls v r_x r_y r_z r_upBits r_steps r_first r_second h hP hS hd
    cases h
    exact ret hP hS hd
  have b80 : ∀ (k5 : Bool → Int64 → Int32 → Int64 → Int64 → Int64 → Int32 → Int32 → Int64 → Int64 → Option (Int64 × Int64 × Int64 × Int64 × Int32 × Int32 × Int64 × Int64)) (hk5 : ∀ (x2 : Bool) (x3 : Int64) (x5 : Int32) (r_x : Int64) (r_y : Int64) (r_z : Int64) (r_upBits : Int32) (r_steps : Int32) (r_first : Int64) (r_second : Int64) (H : Heap) (locs : List Loc) (ls : Array Slot), k5 x2 x3 x5 r_x r_y r_z r_upBits r_steps r_first r_second = some o → WP g A (wBT g a0 a1 a2 a3 a4 a5 a6 a7 a8 a9 a10 a11 a12 a13 a14 a15 b_jobs b_over b_clocks b_held b_kinds b_operands b_ties b_states b_gone b_toldIn b_broughtIn b_doneIn r_x r_y r_z r_upBits r_steps r_first r_second u_width u_guard u_bits u_stages u_places u_near u_quarter u_eighth u_ln u_shifts u_angles u_gains u_undos u_digits) H → va_S A s.heap H locs → lv_has ls 6 [(0, .ref a0), (1, .ref a9), (2, .int (bI x2)), (3, .long x3), (5, .int x5)] → W p l e rm_X1_greatestLeft s m args below meth c H locs 0 0 Q (F0 m 5 ls [])) , ∀ (x2 : Bool) (x3 : Int64) (x5 : Int32) (r_x : Int64) (r_y : Int64) (r_z : Int64) (r_upBits : Int32) (r_steps : Int32) (r_first : Int64) (r_second : Int64) (H : Heap) (locs : List Loc) (ls : Array Slot), f_X1_greatestLeft_b80  b_jobs b_kinds b_operands b_states u_guard u_bits u_stages u_near u_quarter u_ln u_shifts u_angles u_undos k5 x2 x3 x5 r_x r_y r_z r_upBits r_steps r_first r_second = some o → WP g A (wBT g a0 a1 a2 a3 a4 a5 a6 a7 a8 a9 a10 a11 a12 a13 a14 a15 b_jobs b_over b_clocks b_held b_kinds b_operands b_ties b_states b_gone b_toldIn b_broughtIn b_doneIn r_x r_y r_z r_upBits r_steps r_first r_second u_width u_guard u_bits u_stages u_places u_near u_quarter u_eighth u_ln u_shifts u_angles u_gains u_undos u_digits) H → va_S A s.heap H locs → lv_has ls 6 [(0, .ref a0), (1, .ref a9), (2, .int (bI x2)), (3, .long x3), (5, .int x5)] → W p l e rm_X1_greatestLeft s m args below meth c H locs 0 0 Q (F0 m 80 ls []) := by
    intro k5 hk5 x2 x3 x5 r_x r_y r_z r_upBits r_steps r_first r_second H locs ls h hP hS hl
    unfold f_X1_greatestLeft_b80 at h
    obtain ⟨v1, ev1⟩ : ∃ z : Int32, z = (x5 + 1) := ⟨_, rfl⟩
    have h := lt_at ev1 h
    refine lv_iinc (v := v1) (lv' := [(5, .int v1), (0, .ref a0), (1, .ref a9), (2, .int (bI x2)), (3, .long x3)]) hx hb dX1_greatestLeft_80 hl (k := 4) rfl (by rw [ev1]; rfl) (by decide) rfl (fun ls hl => ?_)
    refine lv_goto (tgt := 5) hx hb dX1_greatestLeft_83 rfl ?_
    exact hk5 x2 x3 v1 r_x r_y r_z r_upBits r_steps r_first r_second _ _ _ h hP hS (lv_sub hl [1, 2, 3, 4, 0] rfl)
  have l5 : ∀ (n : Nat), ∀ (x2 : Bool) (x3 : Int64) (x5 : Int32) (r_x : Int64) (r_y : Int64) (r_z : Int64) (r_upBits : Int32) (r_steps : Int32) (r_first : Int64) (r_second : Int64) (H : Heap) (locs : List Loc) (ls : Array Slot), f_X1_greatestLeft_l5  b_jobs b_kinds b_operands b_states u_guard u_bits u_stages u_near u_quarter u_ln u_shifts u_angles u_undos  n x2 x3 x5 r_x r_y r_z r_upBits r_steps r_first r_second = some o → WP g A (wBT g a0 a1 a2 a3 a4 a5 a6 a7 a8 a9 a10 a11 a12 a13 a14 a15 b_jobs b_over b_clocks b_held b_kinds b_operands b_ties b_states b_gone b_toldIn b_broughtIn b_doneIn r_x r_y r_z r_upBits r_steps r_first r_second u_width u_guard u_bits u_stages u_places u_near u_quarter u_eighth u_ln u_shifts u_angles u_gains u_undos u_digits) H → va_S A s.heap H locs → lv_has ls 6 [(0, .ref a0), (1, .ref a9), (2, .int (bI x2)), (3, .long x3), (5, .int x5)] → W p l e rm_X1_greatestLeft s m args below meth c H locs 0 0 Q (F0 m 5 ls []) := by
    intro  n
    induction n with
    | zero =>
      intro x2 x3 x5 r_x r_y r_z r_upBits r_steps r_first r_second H locs ls h
      exact nz_of h
    | succ n ih =>
      intro x2 x3 x5 r_x r_y r_z r_upBits r_steps r_first r_second H locs ls h hP hS hl
      rw [f_X1_greatestLeft_l5] at h
      refine lv_iload hx hb dX1_greatestLeft_5 (lv_at hl 4 rfl) ?_
      refine lv_aload_n hx hb dX1_greatestLeft_7 rfl (lv_at hl 0 rfl) ?_
      refine gf_X1_36_BT_0 X hP dX1_greatestLeft_8 ?_
      refine lv_icmp_ge (tgt := 86) hx hb dX1_greatestLeft_11 rfl (fun c11 => ?_) (fun c11 => ?_)
      · have h := br_p c11 h
        refine lv_lload_n hx hb dX1_greatestLeft_86 rfl (lv_at hl 3 rfl) ?_
        exact ret h hP hS dX1_greatestLeft_87
      · have h := br_n c11 h
        refine lv_aload_n hx hb dX1_greatestLeft_14 rfl (lv_at hl 0 rfl) ?_
        refine gf_X1_21_BT_0 X hP dX1_greatestLeft_15 ?_
        refine lv_iload hx hb dX1_greatestLeft_18 (lv_at hl 4 rfl) ?_
        obtain ⟨hi20, h⟩ := gv_of h
        refine al_BT_4 X hP hi20 dX1_greatestLeft_20 ?_
        refine lv_iconst (v := 2) hx hb dX1_greatestLeft_21 rfl ?_
        refine lv_icmp_ne (tgt := 80) hx hb dX1_greatestLeft_22 rfl (fun c22 => ?_) (fun c22 => ?_)
        · have h := br_n c22 h
          exact b80 (f_X1_greatestLeft_l5  b_jobs b_kinds b_operands b_states u_guard u_bits u_stages u_near u_quarter u_ln u_shifts u_angles u_undos  n) ih  x2 x3 x5 r_x r_y r_z r_upBits r_steps r_first r_second _ _ _ h hP hS (lv_sub hl [0, 1, 2, 3, 4] rfl)
        · have h := br_p c22 h
          refine sgN X hS (sfX X).1 wd_4_226 dX1_greatestLeft_25 ?_
          refine lv_aload_n hx hb dX1_greatestLeft_28 rfl (lv_at hl 0 rfl) ?_
          refine gf_X1_9_BT_0 X hP dX1_greatestLeft_29 ?_
          refine lv_iload hx hb dX1_greatestLeft_32 (lv_at hl 4 rfl) ?_
          obtain ⟨hi34, h⟩ := gv_of h
          refine al_BT_1 X hP hi34 dX1_greatestLeft_34 ?_
          obtain ⟨hi35, h⟩ := gv_of h
          refine stq X hS (sfX X).2.2.2.2.2.2.2.1 hi35 dX1_greatestLeft_35 ?_
          refine W.eq (g2 := F0 m 36 ls [.ref (g.2 (20 + ((b_kinds (x5).toNatClampNeg)).toNatClampNeg))]) rfl ?_
          refine ofN X hS ((sfX X).2.2.2.2.2.2.2.2.2.2.2.2.1 _ (vin_lt hi35)).2.2.2.2.2 wd_7_236 dX1_greatestLeft_36 ?_
          refine lv_iload_n hx hb dX1_greatestLeft_39 rfl (lv_at hl 2 rfl) ?_
          refine lv_icmp_ne (tgt := 80) hx hb dX1_greatestLeft_40 rfl (fun c40 => ?_) (fun c40 => ?_)
          · have h := br_n c40 h
            exact b80 (f_X1_greatestLeft_l5  b_jobs b_kinds b_operands b_states u_guard u_bits u_stages u_near u_quarter u_ln u_shifts u_angles u_undos  n) ih  x2 x3 x5 r_x r_y r_z r_upBits r_steps r_first r_second _ _ _ h hP hS (lv_sub hl [0, 1, 2, 3, 4] rfl)
          · have h := br_p c40 h
            refine lv_aload_n hx hb dX1_greatestLeft_43 rfl (lv_at hl 0 rfl) ?_
            refine lv_iload hx hb dX1_greatestLeft_44 (lv_at hl 4 rfl) ?_
            refine lv_aload_n hx hb dX1_greatestLeft_46 rfl (lv_at hl 1 rfl) ?_
            refine lv_aload_n hx hb dX1_greatestLeft_47 rfl (lv_at hl 1 rfl) ?_
            refine gf_X1_68_BT_9 X hP dX1_greatestLeft_48 ?_
            refine gf_X1_56_BT_10 X hP dX1_greatestLeft_51 ?_
            obtain ⟨o2, hco2, h⟩ := bd_of h
            refine kV (rest := []) X dX1_greatestLeft_54 wd_4_227 mw_X1_turnAgain wd_4_141 wp_5_14 hP (k0 := 0) rfl rfl rfl hS (fun _ z => z) (c_X1_turnAgain hco2) rfl hl.1 rfl (Nat.le_of_ble_eq_true rfl) rfl rfl ⟨Nat.le_of_ble_eq_true rfl, Nat.le_of_ble_eq_true rfl⟩ (fun H locs hP _ _ hS => ?_)
            refine W.eq (g2 := F0 m 57 ls []) rfl ?_
            refine lv_lload_n hx hb dX1_greatestLeft_57 rfl (lv_at hl 3 rfl) ?_
            refine lv_iload_n hx hb dX1_greatestLeft_58 rfl (lv_at hl 2 rfl) ?_
            refine jx1 h (P := fun (v3 : Int64) => ∀ ls : Array Slot, lv_has ls 6 [(0, .ref a0), (1, .ref a9), (2, .int (bI x2)), (5, .int x5)] → W p l e rm_X1_greatestLeft s m args below meth c H locs 0 0 Q (F0 m 73 ls [.long v3, .long x3])) ?_ ?_
            · intro v3 h ls hl
              obtain ⟨o4, hco4, h⟩ := bd_of h
              refine kS (rest := [.long x3]) X dX1_greatestLeft_73 wd_4_228 mw_J9_abs_067f4 wd_3_171 hP hS (fun _ z => z) (c_J9_abs_067f4 hco4) rfl hl.1 rfl (Nat.le_of_ble_eq_true rfl) rfl rfl ⟨Nat.le_of_ble_eq_true rfl, Nat.le_of_ble_eq_true rfl⟩ (fun H locs hP _ _ hS => ?_)
              refine W.eq (g2 := F0 m 76 ls [.long o4, .long x3]) rfl ?_
              obtain ⟨o5, hco5, h⟩ := bd_of h
              refine kS (rest := []) X dX1_greatestLeft_76 wd_4_229 mw_J9_max_f86c9 wd_4_230 hP hS (fun _ z => z) (c_J9_max_f86c9 hco5) rfl hl.1 rfl (Nat.le_of_ble_eq_true rfl) rfl rfl ⟨Nat.le_of_ble_eq_true rfl, Nat.le_of_ble_eq_true rfl⟩ (fun H locs hP _ _ hS => ?_)
              refine W.eq (g2 := F0 m 79 ls [.long o5]) rfl ?_
              refine lv_lstore_n (lv' := [(3, .long o5), (0, .ref a0), (1, .ref a9), (2, .int (bI x2)), (5, .int x5)]) hx hb dX1_greatestLeft_79 rfl hl (by decide) rfl (fun ls hl => ?_)
              exact b80 (f_X1_greatestLeft_l5  b_jobs b_kinds b_operands b_states u_guard u_bits u_stages u_near u_quarter u_ln u_shifts u_angles u_undos  n) ih  x2 o5 x5 o2.1 o2.2.1 o2.2.2.1 o2.2.2.2.1 o2.2.2.2.2.1 o2.2.2.2.2.2.1 o2.2.2.2.2.2.2 _ _ _ h hP hS (lv_sub hl [1, 2, 3, 0, 4] rfl)
            · intro J h
              refine rb_eq (tgt := 69) hx hb dX1_greatestLeft_59 rfl (fun c59 => ?_) (fun c59 => ?_)
              · refine lv_aload_n hx hb dX1_greatestLeft_69 rfl (lv_at hl 1 rfl) ?_
                refine gf_X1_129_BT_9 X hP dX1_greatestLeft_70 ?_
                exact J _ (lt_in c59 h) ls (lv_sub hl [0, 1, 2, 4] rfl)
              · refine lv_aload_n hx hb dX1_greatestLeft_62 rfl (lv_at hl 1 rfl) ?_
                refine gf_X1_125_BT_9 X hP dX1_greatestLeft_63 ?_
                refine lv_goto (tgt := 73) hx hb dX1_greatestLeft_66 rfl ?_
                exact J _ (lt_ip c59 h) ls (lv_sub hl [0, 1, 2, 4] rfl)
  unfold f_X1_greatestLeft at h
  refine lv_lconst (v := 0) hx hb dX1_greatestLeft_0 rfl ?_
  refine lv_lstore_n (lv' := [(3, .long (0 : Int64)), (0, .ref a0), (1, .ref a9), (2, .int (bI p1))]) hx hb dX1_greatestLeft_1 rfl hl (by decide) rfl (fun ls hl => ?_)
  refine lv_iconst (v := 0) hx hb dX1_greatestLeft_2 rfl ?_
  refine lv_istore (lv' := [(5, .int 0), (3, .long (0 : Int64)), (0, .ref a0), (1, .ref a9), (2, .int (bI p1))]) hx hb dX1_greatestLeft_3 hl (by decide) rfl (fun ls hl => ?_)
  exact l5  FU p1 (0 : Int64) (0 : Int32) r_x r_y r_z r_upBits r_steps r_first r_second _ _ _ h hP hS (lv_sub hl [2, 3, 4, 1, 0] rfl)
abbrev rm_X1_longestWay : Room := { frames := 1, cells := 0, slots := 0, locals := 23 }
set_option maxRecDepth 100000 in
set_option maxHeartbeats 4000000 in
theorem c_X1_longestWay {g : gT} {l : Launch} {A : Nat → Prop} {a0 a1 a2 a3 a4 a5 a6 a7 a8 : Nat} {b_jobs : Int32} {b_over : Int32} {b_clocks : Int32} {b_held : Bool} {b_kinds : Nat → Int32} {b_operands : Nat → Int32} {b_ties : Nat → Int32} {b_states : Nat → Int32} {b_gone : Nat → Int32} {b_toldIn : Nat → Int32} {b_broughtIn : Nat → Int32} {b_doneIn : Nat → Int32}  {o : Int64} (h : f_X1_longestWay  b_jobs b_states b_toldIn b_doneIn = some o) : Std g l yX1_longestWay (.code yX1_longestWay cX1_longestWay 4 (some .long) :: gw) rm_X1_longestWay A [.ref a0] (wBook g a0 a1 a2 a3 a4 a5 a6 a7 a8 b_jobs b_over b_clocks b_held b_kinds b_operands b_ties b_states b_gone b_toldIn b_broughtIn b_doneIn) (wBook g a0 a1 a2 a3 a4 a5 a6 a7 a8 b_jobs b_over b_clocks b_held b_kinds b_operands b_ties b_states b_gone b_toldIn b_broughtIn b_doneIn) (some (.long o)) := by
  refine std_l (own := RX1) (by decide +kernel) rfl (Nat.le_of_ble_eq_true rfl) ?_
  intro p e s m args below meth c Q X ret H locs hP hS ls hl
  have hx := X.1
  have hb := X.2.1
  have hl : lv_has ls 4 [(0, .ref a0)] := hl
  have ret : ∀ {H : Heap} {locs : List Loc} {pc : Nat} {ls : Array Slot} {v : Int64} , some (v) = some o → WP g A (wBook g a0 a1 a2 a3 a4 a5 a6 a7 a8 b_jobs b_over b_clocks b_held b_kinds b_operands b_ties b_states b_gone b_toldIn b_broughtIn b_doneIn) H → va_S A s.heap H locs → decode cX1_longestWay pc = .ok (.lreturn, 1) → W p l e rm_X1_longestWay s m args below meth c H locs 0 0 Q (F0 m pc ls [.long v]) := by
    intro H locs pc ls v h hP hS hd
    cases h
    exact ret hP hS hd
  have b41 : ∀ (k4 : Int64 → Int32 → Option (Int64)) (hk4 : ∀ (x1 : Int64) (x3 : Int32) (H : Heap) (locs : List Loc) (ls : Array Slot), k4 x1 x3 = some o → WP g A (wBook g a0 a1 a2 a3 a4 a5 a6 a7 a8 b_jobs b_over b_clocks b_held b_kinds b_operands b_ties b_states b_gone b_toldIn b_broughtIn b_doneIn) H → va_S A s.heap H locs → lv_has ls 4 [(0, .ref a0), (1, .long x1), (3, .int x3)] → W p l e rm_X1_longestWay s m args below meth c H locs 0 0 Q (F0 m 4 ls [])) , ∀ (x1 : Int64) (x3 : Int32) (H : Heap) (locs : List Loc) (ls : Array Slot), f_X1_longestWay_b41  b_jobs b_states b_toldIn b_doneIn k4 x1 x3 = some o → WP g A (wBook g a0 a1 a2 a3 a4 a5 a6 a7 a8 b_jobs b_over b_clocks b_held b_kinds b_operands b_ties b_states b_gone b_toldIn b_broughtIn b_doneIn) H → va_S A s.heap H locs → lv_has ls 4 [(0, .ref a0), (1, .long x1), (3, .int x3)] → W p l e rm_X1_longestWay s m args below meth c H locs 0 0 Q (F0 m 41 ls []) := by
    intro k4 hk4 x1 x3 H locs ls h hP hS hl
    unfold f_X1_longestWay_b41 at h
    obtain ⟨v1, ev1⟩ : ∃ z : Int32, z = (x3 + 1) := ⟨_, rfl⟩
    have h := lt_at ev1 h
    refine lv_iinc (v := v1) (lv' := [(3, .int v1), (0, .ref a0), (1, .long x1)]) hx hb dX1_longestWay_41 hl (k := 2) rfl (by rw [ev1]; rfl) (by decide) rfl (fun ls hl => ?_)
    refine lv_goto (tgt := 4) hx hb dX1_longestWay_44 rfl ?_
    exact hk4 x1 v1 _ _ _ h hP hS (lv_sub hl [1, 2, 0] rfl)
  have l4 : ∀ (n : Nat), ∀ (x1 : Int64) (x3 : Int32) (H : Heap) (locs : List Loc) (ls : Array Slot), f_X1_longestWay_l4  b_jobs b_states b_toldIn b_doneIn  n x1 x3 = some o → WP g A (wBook g a0 a1 a2 a3 a4 a5 a6 a7 a8 b_jobs b_over b_clocks b_held b_kinds b_operands b_ties b_states b_gone b_toldIn b_broughtIn b_doneIn) H → va_S A s.heap H locs → lv_has ls 4 [(0, .ref a0), (1, .long x1), (3, .int x3)] → W p l e rm_X1_longestWay s m args below meth c H locs 0 0 Q (F0 m 4 ls []) := by
    intro  n
    induction n with
    | zero =>
      intro x1 x3 H locs ls h
      exact nz_of h
    | succ n ih =>
      intro x1 x3 H locs ls h hP hS hl
      rw [f_X1_longestWay_l4] at h
      refine lv_iload_n hx hb dX1_longestWay_4 rfl (lv_at hl 2 rfl) ?_
      refine lv_aload_n hx hb dX1_longestWay_5 rfl (lv_at hl 0 rfl) ?_
      refine gf_X1_36_Book_0 X hP dX1_longestWay_6 ?_
      refine lv_icmp_ge (tgt := 47) hx hb dX1_longestWay_9 rfl (fun c9 => ?_) (fun c9 => ?_)
      · have h := br_p c9 h
        refine lv_lload_n hx hb dX1_longestWay_47 rfl (lv_at hl 1 rfl) ?_
        exact ret h hP hS dX1_longestWay_48
      · have h := br_n c9 h
        refine lv_aload_n hx hb dX1_longestWay_12 rfl (lv_at hl 0 rfl) ?_
        refine gf_X1_21_Book_0 X hP dX1_longestWay_13 ?_
        refine lv_iload_n hx hb dX1_longestWay_16 rfl (lv_at hl 2 rfl) ?_
        obtain ⟨hi17, h⟩ := gv_of h
        refine al_Book_4 X hP hi17 dX1_longestWay_17 ?_
        refine lv_iconst (v := 2) hx hb dX1_longestWay_18 rfl ?_
        refine lv_icmp_ne (tgt := 41) hx hb dX1_longestWay_19 rfl (fun c19 => ?_) (fun c19 => ?_)
        · have h := br_n c19 h
          exact b41 (f_X1_longestWay_l4  b_jobs b_states b_toldIn b_doneIn  n) ih  x1 x3 _ _ _ h hP hS (lv_sub hl [0, 1, 2] rfl)
        · have h := br_p c19 h
          refine lv_lload_n hx hb dX1_longestWay_22 rfl (lv_at hl 1 rfl) ?_
          refine lv_aload_n hx hb dX1_longestWay_23 rfl (lv_at hl 0 rfl) ?_
          refine gf_X1_33_Book_0 X hP dX1_longestWay_24 ?_
          refine lv_iload_n hx hb dX1_longestWay_27 rfl (lv_at hl 2 rfl) ?_
          obtain ⟨hi28, h⟩ := gv_of h
          refine al_Book_8 X hP hi28 dX1_longestWay_28 ?_
          refine lv_aload_n hx hb dX1_longestWay_29 rfl (lv_at hl 0 rfl) ?_
          refine gf_X1_27_Book_0 X hP dX1_longestWay_30 ?_
          refine lv_iload_n hx hb dX1_longestWay_33 rfl (lv_at hl 2 rfl) ?_
          obtain ⟨hi34, h⟩ := gv_of h
          refine al_Book_6 X hP hi34 dX1_longestWay_34 ?_
          refine lv_isub hx hb dX1_longestWay_35 ?_
          refine lv_i2l hx hb dX1_longestWay_36 rfl ?_
          obtain ⟨o2, hco2, h⟩ := bd_of h
          refine kS (rest := []) X dX1_longestWay_37 wd_4_229 mw_J9_max_f86c9 wd_4_230 hP hS (fun _ z => z) (c_J9_max_f86c9 hco2) rfl hl.1 rfl (Nat.le_of_ble_eq_true rfl) rfl rfl ⟨Nat.le_of_ble_eq_true rfl, Nat.le_of_ble_eq_true rfl⟩ (fun H locs hP _ _ hS => ?_)
          refine W.eq (g2 := F0 m 40 ls [.long o2]) rfl ?_
          refine lv_lstore_n (lv' := [(1, .long o2), (0, .ref a0), (3, .int x3)]) hx hb dX1_longestWay_40 rfl hl (by decide) rfl (fun ls hl => ?_)
          exact b41 (f_X1_longestWay_l4  b_jobs b_states b_toldIn b_doneIn  n) ih  o2 x3 _ _ _ h hP hS (lv_sub hl [1, 0, 2] rfl)
  unfold f_X1_longestWay at h
  refine lv_lconst (v := 0) hx hb dX1_longestWay_0 rfl ?_
  refine lv_lstore_n (lv' := [(1, .long (0 : Int64)), (0, .ref a0)]) hx hb dX1_longestWay_1 rfl hl (by decide) rfl (fun ls hl => ?_)
  refine lv_iconst (v := 0) hx hb dX1_longestWay_2 rfl ?_
  refine lv_istore_n (lv' := [(3, .int 0), (1, .long (0 : Int64)), (0, .ref a0)]) hx hb dX1_longestWay_3 rfl hl (by decide) rfl (fun ls hl => ?_)
  exact l4  FU (0 : Int64) (0 : Int32) _ _ _ h hP hS (lv_sub hl [2, 1, 0] rfl)
abbrev rm_X1_sumsMade : Room := { frames := 0, cells := 0, slots := 0, locals := 0 }
set_option maxRecDepth 100000 in
set_option maxHeartbeats 4000000 in
theorem c_X1_sumsMade {g : gT} {l : Launch} {A : Nat → Prop} {a0 a1 a2 a3 a4 a5 a6 a7 a8 : Nat} {b_jobs : Int32} {b_over : Int32} {b_clocks : Int32} {b_held : Bool} {b_kinds : Nat → Int32} {b_operands : Nat → Int32} {b_ties : Nat → Int32} {b_states : Nat → Int32} {b_gone : Nat → Int32} {b_toldIn : Nat → Int32} {b_broughtIn : Nat → Int32} {b_doneIn : Nat → Int32} {p0 : Int32} {o : Int64} (h : f_X1_sumsMade p0 b_jobs b_kinds b_states = some o) : Std g l yX1_sumsMade (.code yX1_sumsMade cX1_sumsMade 5 (some .long) :: gw) rm_X1_sumsMade A [.ref a0, .int p0] (wBook g a0 a1 a2 a3 a4 a5 a6 a7 a8 b_jobs b_over b_clocks b_held b_kinds b_operands b_ties b_states b_gone b_toldIn b_broughtIn b_doneIn) (wBook g a0 a1 a2 a3 a4 a5 a6 a7 a8 b_jobs b_over b_clocks b_held b_kinds b_operands b_ties b_states b_gone b_toldIn b_broughtIn b_doneIn) (some (.long o)) := by
  refine std_l (own := RX1) (by decide +kernel) rfl (Nat.le_of_ble_eq_true rfl) ?_
  intro p e s m args below meth c Q X ret H locs hP hS ls hl
  have hx := X.1
  have hb := X.2.1
  have hl : lv_has ls 5 [(0, .ref a0), (1, .int p0)] := hl
  have ret : ∀ {H : Heap} {locs : List Loc} {pc : Nat} {ls : Array Slot} {v : Int64} , some (v) = some o → WP g A (wBook g a0 a1 a2 a3 a4 a5 a6 a7 a8 b_jobs b_over b_clocks b_held b_kinds b_operands b_ties b_states b_gone b_toldIn b_broughtIn b_doneIn) H → va_S A s.heap H locs → decode cX1_sumsMade pc = .ok (.lreturn, 1) → W p l e rm_X1_sumsMade s m args below meth c H locs 0 0 Q (F0 m pc ls [.long v]) := by
    intro H locs pc ls v h hP hS hd
    cases h
    exact ret hP hS hd
  have b55 : ∀ (k5 : Int32 → Int64 → Int32 → Option (Int64)) (hk5 : ∀ (x1 : Int32) (x2 : Int64) (x4 : Int32) (H : Heap) (locs : List Loc) (ls : Array Slot), k5 x1 x2 x4 = some o → WP g A (wBook g a0 a1 a2 a3 a4 a5 a6 a7 a8 b_jobs b_over b_clocks b_held b_kinds b_operands b_ties b_states b_gone b_toldIn b_broughtIn b_doneIn) H → va_S A s.heap H locs → lv_has ls 5 [(0, .ref a0), (1, .int x1), (2, .long x2), (4, .int x4)] → W p l e rm_X1_sumsMade s m args below meth c H locs 0 0 Q (F0 m 5 ls [])) , ∀ (x1 : Int32) (x2 : Int64) (x4 : Int32) (H : Heap) (locs : List Loc) (ls : Array Slot), f_X1_sumsMade_b55  b_jobs b_kinds b_states k5 x1 x2 x4 = some o → WP g A (wBook g a0 a1 a2 a3 a4 a5 a6 a7 a8 b_jobs b_over b_clocks b_held b_kinds b_operands b_ties b_states b_gone b_toldIn b_broughtIn b_doneIn) H → va_S A s.heap H locs → lv_has ls 5 [(0, .ref a0), (1, .int x1), (2, .long x2), (4, .int x4)] → W p l e rm_X1_sumsMade s m args below meth c H locs 0 0 Q (F0 m 55 ls []) := by
    intro k5 hk5 x1 x2 x4 H locs ls h hP hS hl
    unfold f_X1_sumsMade_b55 at h
    obtain ⟨v1, ev1⟩ : ∃ z : Int32, z = (x4 + 1) := ⟨_, rfl⟩
    have h := lt_at ev1 h
    refine lv_iinc (v := v1) (lv' := [(4, .int v1), (0, .ref a0), (1, .int x1), (2, .long x2)]) hx hb dX1_sumsMade_55 hl (k := 3) rfl (by rw [ev1]; rfl) (by decide) rfl (fun ls hl => ?_)
    refine lv_goto (tgt := 5) hx hb dX1_sumsMade_58 rfl ?_
    exact hk5 x1 x2 v1 _ _ _ h hP hS (lv_sub hl [1, 2, 3, 0] rfl)
  have l5 : ∀ (n : Nat), ∀ (x1 : Int32) (x2 : Int64) (x4 : Int32) (H : Heap) (locs : List Loc) (ls : Array Slot), f_X1_sumsMade_l5  b_jobs b_kinds b_states  n x1 x2 x4 = some o → WP g A (wBook g a0 a1 a2 a3 a4 a5 a6 a7 a8 b_jobs b_over b_clocks b_held b_kinds b_operands b_ties b_states b_gone b_toldIn b_broughtIn b_doneIn) H → va_S A s.heap H locs → lv_has ls 5 [(0, .ref a0), (1, .int x1), (2, .long x2), (4, .int x4)] → W p l e rm_X1_sumsMade s m args below meth c H locs 0 0 Q (F0 m 5 ls []) := by
    intro  n
    induction n with
    | zero =>
      intro x1 x2 x4 H locs ls h
      exact nz_of h
    | succ n ih =>
      intro x1 x2 x4 H locs ls h hP hS hl
      rw [f_X1_sumsMade_l5] at h
      refine lv_iload hx hb dX1_sumsMade_5 (lv_at hl 3 rfl) ?_
      refine lv_aload_n hx hb dX1_sumsMade_7 rfl (lv_at hl 0 rfl) ?_
      refine gf_X1_36_Book_0 X hP dX1_sumsMade_8 ?_
      refine lv_icmp_ge (tgt := 61) hx hb dX1_sumsMade_11 rfl (fun c11 => ?_) (fun c11 => ?_)
      · have h := br_p c11 h
        refine lv_lload_n hx hb dX1_sumsMade_61 rfl (lv_at hl 2 rfl) ?_
        exact ret h hP hS dX1_sumsMade_62
      · have h := br_n c11 h
        refine lv_aload_n hx hb dX1_sumsMade_14 rfl (lv_at hl 0 rfl) ?_
        refine gf_X1_21_Book_0 X hP dX1_sumsMade_15 ?_
        refine lv_iload hx hb dX1_sumsMade_18 (lv_at hl 3 rfl) ?_
        obtain ⟨hi20, h⟩ := gv_of h
        refine al_Book_4 X hP hi20 dX1_sumsMade_20 ?_
        refine lv_iconst (v := 2) hx hb dX1_sumsMade_21 rfl ?_
        refine lv_icmp_ne (tgt := 55) hx hb dX1_sumsMade_22 rfl (fun c22 => ?_) (fun c22 => ?_)
        · have h := br_n c22 h
          exact b55 (f_X1_sumsMade_l5  b_jobs b_kinds b_states  n) ih  x1 x2 x4 _ _ _ h hP hS (lv_sub hl [0, 1, 2, 3] rfl)
        · have h := br_p c22 h
          refine lv_lload_n hx hb dX1_sumsMade_25 rfl (lv_at hl 2 rfl) ?_
          refine lv_iload_n hx hb dX1_sumsMade_26 rfl (lv_at hl 1 rfl) ?_
          refine lv_i2l hx hb dX1_sumsMade_27 rfl ?_
          refine sgN X hS (sfX X).1 wd_4_226 dX1_sumsMade_28 ?_
          refine lv_aload_n hx hb dX1_sumsMade_31 rfl (lv_at hl 0 rfl) ?_
          refine gf_X1_9_Book_0 X hP dX1_sumsMade_32 ?_
          refine lv_iload hx hb dX1_sumsMade_35 (lv_at hl 3 rfl) ?_
          obtain ⟨hi37, h⟩ := gv_of h
          refine al_Book_1 X hP hi37 dX1_sumsMade_37 ?_
          obtain ⟨hi38, h⟩ := gv_of h
          refine stq X hS (sfX X).2.2.2.2.2.2.2.1 hi38 dX1_sumsMade_38 ?_
          refine W.eq (g2 := F0 m 39 ls [.ref (g.2 (20 + ((b_kinds (x4).toNatClampNeg)).toNatClampNeg)), .long x1.toInt64, .long x2]) rfl ?_
          refine ofN X hS ((sfX X).2.2.2.2.2.2.2.2.2.2.2.2.1 _ (vin_lt hi38)).2.2.2.2.1 wd_7_237 dX1_sumsMade_39 ?_
          refine lv_iconst (v := 1) hx hb dX1_sumsMade_42 rfl ?_
          refine jx1 h (P := fun (v2 : Int32) => ∀ ls : Array Slot, lv_has ls 5 [(0, .ref a0), (1, .int x1), (4, .int x4)] → W p l e rm_X1_sumsMade s m args below meth c H locs 0 0 Q (F0 m 51 ls [.int v2, .long x1.toInt64, .long x2])) ?_ ?_
          · intro v2 h ls hl
            refine lv_i2l hx hb dX1_sumsMade_51 rfl ?_
            refine lv_lmul hx hb dX1_sumsMade_52 ?_
            refine lv_ladd hx hb dX1_sumsMade_53 ?_
            refine lv_topl (fun v3 ev3 => ?_)
            have h := lt_at ev3 h
            refine lv_lstore_n (lv' := [(2, .long v3), (0, .ref a0), (1, .int x1), (4, .int x4)]) hx hb dX1_sumsMade_54 rfl hl (by decide) rfl (fun ls hl => ?_)
            exact b55 (f_X1_sumsMade_l5  b_jobs b_kinds b_states  n) ih  x1 v3 x4 _ _ _ h hP hS (lv_sub hl [1, 2, 0, 3] rfl)
          · intro J h
            refine lv_icmp_ne (tgt := 50) hx hb dX1_sumsMade_43 rfl (fun c43 => ?_) (fun c43 => ?_)
            · refine lv_iconst (v := 3) hx hb dX1_sumsMade_50 rfl ?_
              exact J _ (lt_in c43 h) ls (lv_sub hl [0, 1, 3] rfl)
            · refine lv_iconst (v := 2) hx hb dX1_sumsMade_46 rfl ?_
              refine lv_goto (tgt := 51) hx hb dX1_sumsMade_47 rfl ?_
              exact J _ (lt_ip c43 h) ls (lv_sub hl [0, 1, 3] rfl)
  unfold f_X1_sumsMade at h
  refine lv_lconst (v := 0) hx hb dX1_sumsMade_0 rfl ?_
  refine lv_lstore_n (lv' := [(2, .long (0 : Int64)), (0, .ref a0), (1, .int p0)]) hx hb dX1_sumsMade_1 rfl hl (by decide) rfl (fun ls hl => ?_)
  refine lv_iconst (v := 0) hx hb dX1_sumsMade_2 rfl ?_
  refine lv_istore (lv' := [(4, .int 0), (2, .long (0 : Int64)), (0, .ref a0), (1, .int p0)]) hx hb dX1_sumsMade_3 hl (by decide) rfl (fun ls hl => ?_)
  exact l5  FU p0 (0 : Int64) (0 : Int32) _ _ _ h hP hS (lv_sub hl [2, 3, 1, 0] rfl)
abbrev rm_X5_here : Room := { frames := 0, cells := 0, slots := 0, locals := 0 }
set_option maxRecDepth 100000 in
set_option maxHeartbeats 4000000 in
theorem c_X5_here {g : gT} {l : Launch} {A : Nat → Prop} {a0 a1 a2 : Nat} {s_at : Int32} {t_length : Int32} {t_bytes : Nat → Int32}  {o : Int32} (h : f_X5_here  s_at t_length t_bytes = some o) : Std g l yX5_here (.code yX5_here cX5_here 1 (some .int) :: gw) rm_X5_here A [.ref a0] (wScan g a0 a1 a2 s_at t_length t_bytes) (wScan g a0 a1 a2 s_at t_length t_bytes) (some (.int o)) := by
  refine std_i (own := RX5) (by decide +kernel) rfl (Nat.le_of_ble_eq_true rfl) ?_
  intro p e s m args below meth c Q X ret H locs hP hS ls hl
  have hx := X.1
  have hb := X.2.1
  have hl : lv_has ls 1 [(0, .ref a0)] := hl
  have ret : ∀ {H : Heap} {locs : List Loc} {pc : Nat} {ls : Array Slot} {v : Int32} , some (v) = some o → WP g A (wScan g a0 a1 a2 s_at t_length t_bytes) H → va_S A s.heap H locs → decode cX5_here pc = .ok (.ireturn, 1) → W p l e rm_X5_here s m args below meth c H locs 0 0 Q (F0 m pc ls [.int v]) := by
    intro H locs pc ls v h hP hS hd
    cases h
    exact ret hP hS hd
  have b36 : ∀  (H : Heap) (locs : List Loc) (ls : Array Slot), f_X5_here_b36  s_at t_length t_bytes   = some o → WP g A (wScan g a0 a1 a2 s_at t_length t_bytes) H → va_S A s.heap H locs → lv_has ls 1 [] → W p l e rm_X5_here s m args below meth c H locs 0 0 Q (F0 m 36 ls []) := by
    intro   H locs ls h hP hS hl
    unfold f_X5_here_b36 at h
    refine lv_iconst (v := 0) hx hb dX5_here_36 rfl ?_
    exact ret h hP hS dX5_here_37
  unfold f_X5_here at h
  refine lv_aload_n hx hb dX5_here_0 rfl (lv_at hl 0 rfl) ?_
  refine gf_X5_13_Scan_0 X hP dX5_here_1 ?_
  refine lv_if_lt (tgt := 36) hx hb dX5_here_4 rfl (fun c4 => ?_) (fun c4 => ?_)
  · have h := br_p c4 h
    exact b36    _ _ _ h hP hS (lv_sub hl [] rfl)
  · have h := br_n c4 h
    refine lv_aload_n hx hb dX5_here_7 rfl (lv_at hl 0 rfl) ?_
    refine gf_X5_13_Scan_0 X hP dX5_here_8 ?_
    refine lv_aload_n hx hb dX5_here_11 rfl (lv_at hl 0 rfl) ?_
    refine gf_X5_7_Scan_0 X hP dX5_here_12 ?_
    refine gf_X5_17_Scan_1 X hP dX5_here_15 ?_
    refine lv_icmp_ge (tgt := 36) hx hb dX5_here_18 rfl (fun c18 => ?_) (fun c18 => ?_)
    · have h := br_p c18 h
      exact b36    _ _ _ h hP hS (lv_sub hl [] rfl)
    · have h := br_n c18 h
      refine lv_aload_n hx hb dX5_here_21 rfl (lv_at hl 0 rfl) ?_
      refine gf_X5_7_Scan_0 X hP dX5_here_22 ?_
      refine gf_X5_22_Scan_1 X hP dX5_here_25 ?_
      refine lv_aload_n hx hb dX5_here_28 rfl (lv_at hl 0 rfl) ?_
      refine gf_X5_13_Scan_0 X hP dX5_here_29 ?_
      obtain ⟨hi32, h⟩ := gv_of h
      refine al_Scan_2 X hP hi32 dX5_here_32 ?_
      refine lv_goto (tgt := 37) hx hb dX5_here_33 rfl ?_
      exact ret h hP hS dX5_here_37
abbrev rm_X5_skipBlanks : Room := { frames := 1, cells := 0, slots := 0, locals := 20 }
set_option maxRecDepth 100000 in
set_option maxHeartbeats 4000000 in
theorem c_X5_skipBlanks {g : gT} {l : Launch} {A : Nat → Prop} {a0 a1 a2 : Nat} {s_at : Int32} {t_length : Int32} {t_bytes : Nat → Int32}  {o : Int32} (h : f_X5_skipBlanks  s_at t_length t_bytes = some o) : Std g l yX5_skipBlanks (.code yX5_skipBlanks cX5_skipBlanks 1 none :: gw) rm_X5_skipBlanks A [.ref a0] (wScan g a0 a1 a2 s_at t_length t_bytes) (wScan g a0 a1 a2 o t_length t_bytes) none := by
  refine std_v (own := RX5) (by decide +kernel) rfl (Nat.le_of_ble_eq_true rfl) ?_
  intro p e s m args below meth c Q X ret H locs hP hS ls hl
  have hx := X.1
  have hb := X.2.1
  have hl : lv_has ls 1 [(0, .ref a0)] := hl
  have ret : ∀ {H : Heap} {locs : List Loc} {pc : Nat} {ls : Array Slot} {s_at : Int32}, some (s_at) = some o → WP g A (wScan g a0 a1 a2 s_at t_length t_bytes) H → va_S A s.heap H locs → decode cX5_skipBlanks pc = .ok (.return_, 1) → W p l e rm_X5_skipBlanks s m args below meth c H locs 0 0 Q (F0 m pc ls []) := by
    intro H locs pc ls s_at h hP hS hd
    cases h
    exact ret hP hS hd
  have l0 : ∀ (n : Nat), ∀ (s_at : Int32) (H : Heap) (locs : List Loc) (ls : Array Slot), f_X5_skipBlanks_l0  t_length t_bytes  n s_at = some o → WP g A (wScan g a0 a1 a2 s_at t_length t_bytes) H → va_S A s.heap H locs → lv_has ls 1 [(0, .ref a0)] → W p l e rm_X5_skipBlanks s m args below meth c H locs 0 0 Q (F0 m 0 ls []) := by
    intro  n
    induction n with
    | zero =>
      intro s_at H locs ls h
      exact nz_of h
    | succ n ih =>
      intro s_at H locs ls h hP hS hl
      rw [f_X5_skipBlanks_l0] at h
      refine lv_aload_n hx hb dX5_skipBlanks_0 rfl (lv_at hl 0 rfl) ?_
      refine gf_X5_13_Scan_0 X hP dX5_skipBlanks_1 ?_
      refine lv_aload_n hx hb dX5_skipBlanks_4 rfl (lv_at hl 0 rfl) ?_
      refine gf_X5_7_Scan_0 X hP dX5_skipBlanks_5 ?_
      refine gf_X5_17_Scan_1 X hP dX5_skipBlanks_8 ?_
      refine lv_icmp_ge (tgt := 36) hx hb dX5_skipBlanks_11 rfl (fun c11 => ?_) (fun c11 => ?_)
      · have h := br_p c11 h
        exact ret h hP hS dX5_skipBlanks_36
      · have h := br_n c11 h
        refine lv_aload_n hx hb dX5_skipBlanks_14 rfl (lv_at hl 0 rfl) ?_
        obtain ⟨o1, hco1, h⟩ := bd_of h
        refine kV (rest := []) X dX5_skipBlanks_15 wd_2_166 mw_X5_here wd_2_168 wp_1_12 hP (k0 := 0) rfl rfl rfl hS (fun _ z => z) (c_X5_here hco1) rfl hl.1 rfl (Nat.le_of_ble_eq_true rfl) rfl rfl ⟨Nat.le_of_ble_eq_true rfl, Nat.le_of_ble_eq_true rfl⟩ (fun H locs hP _ _ hS => ?_)
        refine W.eq (g2 := F0 m 18 ls [.int o1]) rfl ?_
        refine lv_bipush (v := 32) hx hb dX5_skipBlanks_18 rfl ?_
        refine lv_icmp_ne (tgt := 36) hx hb dX5_skipBlanks_20 rfl (fun c20 => ?_) (fun c20 => ?_)
        · have h := br_n c20 h
          exact ret h hP hS dX5_skipBlanks_36
        · have h := br_p c20 h
          refine lv_aload_n hx hb dX5_skipBlanks_23 rfl (lv_at hl 0 rfl) ?_
          refine lv_dup hx hb dX5_skipBlanks_24 rfl ?_
          refine gf_X5_13_Scan_0 X hP dX5_skipBlanks_25 ?_
          refine lv_iconst (v := 1) hx hb dX5_skipBlanks_28 rfl ?_
          refine lv_iadd hx hb dX5_skipBlanks_29 ?_
          refine lv_topi (fun v2 ev2 => ?_)
          have h := lt_at ev2 h
          refine pf_X5_13_Scan_0 (v0 := v2) X hP hS dX5_skipBlanks_30 (fun H locs hP hS => ?_)
          refine lv_goto (tgt := 0) hx hb dX5_skipBlanks_33 rfl ?_
          exact ih v2 _ _ _ h hP hS (lv_sub hl [0] rfl)
  unfold f_X5_skipBlanks at h
  exact l0  FU s_at _ _ _ h hP hS (lv_sub hl [0] rfl)
abbrev rm_X5_isOnLetter : Room := { frames := 1, cells := 0, slots := 0, locals := 20 }
set_option maxRecDepth 100000 in
set_option maxHeartbeats 4000000 in
theorem c_X5_isOnLetter {g : gT} {l : Launch} {A : Nat → Prop} {a0 a1 a2 : Nat} {s_at : Int32} {t_length : Int32} {t_bytes : Nat → Int32}  {o : Bool} (h : f_X5_isOnLetter  s_at t_length t_bytes = some o) : Std g l yX5_isOnLetter (.code yX5_isOnLetter cX5_isOnLetter 1 (some .boolean) :: gw) rm_X5_isOnLetter A [.ref a0] (wScan g a0 a1 a2 s_at t_length t_bytes) (wScan g a0 a1 a2 s_at t_length t_bytes) (some (.int (bI o))) := by
  refine std_z (own := RX5) (by decide +kernel) rfl (Nat.le_of_ble_eq_true rfl) ?_
  intro p e s m args below meth c Q X ret H locs hP hS ls hl
  have hx := X.1
  have hb := X.2.1
  have hl : lv_has ls 1 [(0, .ref a0)] := hl
  have ret : ∀ {H : Heap} {locs : List Loc} {pc : Nat} {ls : Array Slot} {v : Bool} , some (v) = some o → WP g A (wScan g a0 a1 a2 s_at t_length t_bytes) H → va_S A s.heap H locs → decode cX5_isOnLetter pc = .ok (.ireturn, 1) → W p l e rm_X5_isOnLetter s m args below meth c H locs 0 0 Q (F0 m pc ls [.int (bI v)]) := by
    intro H locs pc ls v h hP hS hd
    cases h
    exact ret hP hS hd
  have b22 : ∀  (H : Heap) (locs : List Loc) (ls : Array Slot), f_X5_isOnLetter_b22  s_at t_length t_bytes   = some o → WP g A (wScan g a0 a1 a2 s_at t_length t_bytes) H → va_S A s.heap H locs → lv_has ls 1 [] → W p l e rm_X5_isOnLetter s m args below meth c H locs 0 0 Q (F0 m 22 ls []) := by
    intro   H locs ls h hP hS hl
    unfold f_X5_isOnLetter_b22 at h
    refine lv_iconst (v := 0) hx hb dX5_isOnLetter_22 rfl ?_
    exact ret h hP hS dX5_isOnLetter_23
  unfold f_X5_isOnLetter at h
  refine lv_aload_n hx hb dX5_isOnLetter_0 rfl (lv_at hl 0 rfl) ?_
  obtain ⟨o1, hco1, h⟩ := bd_of h
  refine kV (rest := []) X dX5_isOnLetter_1 wd_2_166 mw_X5_here wd_2_168 wp_1_12 hP (k0 := 0) rfl rfl rfl hS (fun _ z => z) (c_X5_here hco1) rfl hl.1 rfl (Nat.le_of_ble_eq_true rfl) rfl rfl ⟨Nat.le_of_ble_eq_true rfl, Nat.le_of_ble_eq_true rfl⟩ (fun H locs hP _ _ hS => ?_)
  refine W.eq (g2 := F0 m 4 ls [.int o1]) rfl ?_
  refine lv_bipush (v := 97) hx hb dX5_isOnLetter_4 rfl ?_
  refine lv_icmp_lt (tgt := 22) hx hb dX5_isOnLetter_6 rfl (fun c6 => ?_) (fun c6 => ?_)
  · have h := br_p c6 h
    exact b22    _ _ _ h hP hS (lv_sub hl [] rfl)
  · have h := br_n c6 h
    refine lv_aload_n hx hb dX5_isOnLetter_9 rfl (lv_at hl 0 rfl) ?_
    obtain ⟨o2, hco2, h⟩ := bd_of h
    refine kV (rest := []) X dX5_isOnLetter_10 wd_2_166 mw_X5_here wd_2_168 wp_1_12 hP (k0 := 0) rfl rfl rfl hS (fun _ z => z) (c_X5_here hco2) rfl hl.1 rfl (Nat.le_of_ble_eq_true rfl) rfl rfl ⟨Nat.le_of_ble_eq_true rfl, Nat.le_of_ble_eq_true rfl⟩ (fun H locs hP _ _ hS => ?_)
    refine W.eq (g2 := F0 m 13 ls [.int o2]) rfl ?_
    refine lv_bipush (v := 122) hx hb dX5_isOnLetter_13 rfl ?_
    refine jx1 h (P := fun (v3 : Bool) => ∀ ls : Array Slot, lv_has ls 1 [] → W p l e rm_X5_isOnLetter s m args below meth c H locs 0 0 Q (F0 m 23 ls [.int (bI v3)])) ?_ ?_
    · intro v3 h ls hl
      exact ret h hP hS dX5_isOnLetter_23
    · intro J h
      refine lv_icmp_gt (tgt := 22) hx hb dX5_isOnLetter_15 rfl (fun c15 => ?_) (fun c15 => ?_)
      · refine lv_iconst (v := 0) hx hb dX5_isOnLetter_22 rfl ?_
        exact J _ (lt_ip c15 h) ls (lv_sub hl [] rfl)
      · refine lv_iconst (v := 1) hx hb dX5_isOnLetter_18 rfl ?_
        refine lv_goto (tgt := 23) hx hb dX5_isOnLetter_19 rfl ?_
        exact J _ (lt_in c15 h) ls (lv_sub hl [] rfl)
abbrev rm_X5_passLetters : Room := { frames := 2, cells := 0, slots := 0, locals := 40 }
set_option maxRecDepth 100000 in
set_option maxHeartbeats 4000000 in
theorem c_X5_passLetters {g : gT} {l : Launch} {A : Nat → Prop} {a0 a1 a2 : Nat} {s_at : Int32} {t_length : Int32} {t_bytes : Nat → Int32}  {o : Int32} (h : f_X5_passLetters  s_at t_length t_bytes = some o) : Std g l yX5_passLetters (.code yX5_passLetters cX5_passLetters 1 none :: gw) rm_X5_passLetters A [.ref a0] (wScan g a0 a1 a2 s_at t_length t_bytes) (wScan g a0 a1 a2 o t_length t_bytes) none := by
  refine std_v (own := RX5) (by decide +kernel) rfl (Nat.le_of_ble_eq_true rfl) ?_
  intro p e s m args below meth c Q X ret H locs hP hS ls hl
  have hx := X.1
  have hb := X.2.1
  have hl : lv_has ls 1 [(0, .ref a0)] := hl
  have ret : ∀ {H : Heap} {locs : List Loc} {pc : Nat} {ls : Array Slot} {s_at : Int32}, some (s_at) = some o → WP g A (wScan g a0 a1 a2 s_at t_length t_bytes) H → va_S A s.heap H locs → decode cX5_passLetters pc = .ok (.return_, 1) → W p l e rm_X5_passLetters s m args below meth c H locs 0 0 Q (F0 m pc ls []) := by
    intro H locs pc ls s_at h hP hS hd
    cases h
    exact ret hP hS hd
  have l0 : ∀ (n : Nat), ∀ (s_at : Int32) (H : Heap) (locs : List Loc) (ls : Array Slot), f_X5_passLetters_l0  t_length t_bytes  n s_at = some o → WP g A (wScan g a0 a1 a2 s_at t_length t_bytes) H → va_S A s.heap H locs → lv_has ls 1 [(0, .ref a0)] → W p l e rm_X5_passLetters s m args below meth c H locs 0 0 Q (F0 m 0 ls []) := by
    intro  n
    induction n with
    | zero =>
      intro s_at H locs ls h
      exact nz_of h
    | succ n ih =>
      intro s_at H locs ls h hP hS hl
      rw [f_X5_passLetters_l0] at h
      refine lv_aload_n hx hb dX5_passLetters_0 rfl (lv_at hl 0 rfl) ?_
      refine gf_X5_13_Scan_0 X hP dX5_passLetters_1 ?_
      refine lv_aload_n hx hb dX5_passLetters_4 rfl (lv_at hl 0 rfl) ?_
      refine gf_X5_7_Scan_0 X hP dX5_passLetters_5 ?_
      refine gf_X5_17_Scan_1 X hP dX5_passLetters_8 ?_
      refine lv_icmp_ge (tgt := 34) hx hb dX5_passLetters_11 rfl (fun c11 => ?_) (fun c11 => ?_)
      · have h := br_p c11 h
        exact ret h hP hS dX5_passLetters_34
      · have h := br_n c11 h
        refine lv_aload_n hx hb dX5_passLetters_14 rfl (lv_at hl 0 rfl) ?_
        obtain ⟨o1, hco1, h⟩ := bd_of h
        refine kV (rest := []) X dX5_passLetters_15 wd_2_174 mw_X5_isOnLetter wd_2_176 wp_1_14 hP (k0 := 0) rfl rfl rfl hS (fun _ z => z) (c_X5_isOnLetter hco1) rfl hl.1 rfl (Nat.le_of_ble_eq_true rfl) rfl rfl ⟨Nat.le_of_ble_eq_true rfl, Nat.le_of_ble_eq_true rfl⟩ (fun H locs hP _ _ hS => ?_)
        refine W.eq (g2 := F0 m 18 ls [.int (bI o1)]) rfl ?_
        refine rb_eq (tgt := 34) hx hb dX5_passLetters_18 rfl (fun c18 => ?_) (fun c18 => ?_)
        · have h := br_n c18 h
          exact ret h hP hS dX5_passLetters_34
        · have h := br_p c18 h
          refine lv_aload_n hx hb dX5_passLetters_21 rfl (lv_at hl 0 rfl) ?_
          refine lv_dup hx hb dX5_passLetters_22 rfl ?_
          refine gf_X5_13_Scan_0 X hP dX5_passLetters_23 ?_
          refine lv_iconst (v := 1) hx hb dX5_passLetters_26 rfl ?_
          refine lv_iadd hx hb dX5_passLetters_27 ?_
          refine lv_topi (fun v2 ev2 => ?_)
          have h := lt_at ev2 h
          refine pf_X5_13_Scan_0 (v0 := v2) X hP hS dX5_passLetters_28 (fun H locs hP hS => ?_)
          refine lv_goto (tgt := 0) hx hb dX5_passLetters_31 rfl ?_
          exact ih v2 _ _ _ h hP hS (lv_sub hl [0] rfl)
  unfold f_X5_passLetters at h
  exact l0  FU s_at _ _ _ h hP hS (lv_sub hl [0] rfl)
abbrev rm_X5_reads : Room := { frames := 4, cells := 0, slots := 0, locals := 90 }
set_option maxRecDepth 100000 in
set_option maxHeartbeats 4000000 in
theorem c_X5_reads {g : gT} {l : Launch} {A : Nat → Prop} {a0 a1 a2 : Nat} {s_at : Int32} {t_length : Int32} {t_bytes : Nat → Int32} {si : Nat} {p1 : Int32} {o : Bool} (hsi : si < 31) (h : f_X5_reads si p1 s_at t_length t_bytes = some o) : Std g l yX5_reads (.code yX5_reads cX5_reads 4 (some .boolean) :: gw) rm_X5_reads A [.ref a0, .ref (g.2 (60 + si)), .int p1] (wScan g a0 a1 a2 s_at t_length t_bytes) (wScan g a0 a1 a2 s_at t_length t_bytes) (some (.int (bI o))) := by
  refine std_z (own := RX5) (by decide +kernel) rfl (Nat.le_of_ble_eq_true rfl) ?_
  intro p e s m args below meth c Q X ret H locs hP hS ls hl
  have hx := X.1
  have hb := X.2.1
  have hl : lv_has ls 4 [(0, .ref a0), (1, .ref (g.2 (60 + si))), (2, .int p1)] := hl
  have ret : ∀ {H : Heap} {locs : List Loc} {pc : Nat} {ls : Array Slot} {v : Bool} , some (v) = some o → WP g A (wScan g a0 a1 a2 s_at t_length t_bytes) H → va_S A s.heap H locs → decode cX5_reads pc = .ok (.ireturn, 1) → W p l e rm_X5_reads s m args below meth c H locs 0 0 Q (F0 m pc ls [.int (bI v)]) := by
    intro H locs pc ls v h hP hS hd
    cases h
    exact ret hP hS hd
  have b31 : ∀  (H : Heap) (locs : List Loc) (ls : Array Slot), f_X5_reads_b31 si s_at t_length t_bytes   = some o → WP g A (wScan g a0 a1 a2 s_at t_length t_bytes) H → va_S A s.heap H locs → lv_has ls 4 [] → W p l e rm_X5_reads s m args below meth c H locs 0 0 Q (F0 m 31 ls []) := by
    intro   H locs ls h hP hS hl
    unfold f_X5_reads_b31 at h
    refine lv_iconst (v := 0) hx hb dX5_reads_31 rfl ?_
    exact ret h hP hS dX5_reads_32
  have l35 : ∀ (n : Nat), ∀ (x2 : Int32) (x3 : Int32) (H : Heap) (locs : List Loc) (ls : Array Slot), f_X5_reads_l35 si s_at t_length t_bytes  n x2 x3 = some o → WP g A (wScan g a0 a1 a2 s_at t_length t_bytes) H → va_S A s.heap H locs → lv_has ls 4 [(0, .ref a0), (1, .ref (g.2 (60 + si))), (2, .int x2), (3, .int x3)] → W p l e rm_X5_reads s m args below meth c H locs 0 0 Q (F0 m 35 ls []) := by
    intro  n
    induction n with
    | zero =>
      intro x2 x3 H locs ls h
      exact nz_of h
    | succ n ih =>
      intro x2 x3 H locs ls h hP hS hl
      rw [f_X5_reads_l35] at h
      refine lv_iload_n hx hb dX5_reads_35 rfl (lv_at hl 3 rfl) ?_
      refine lv_aload_n hx hb dX5_reads_36 rfl (lv_at hl 1 rfl) ?_
      refine str_len (rest := [.int x3]) X hP hl.1 hS hsi wd_2_184 (Nat.le_of_ble_eq_true rfl) (Nat.le_of_ble_eq_true rfl) (Nat.le_of_ble_eq_true rfl) dX5_reads_37 (fun H locs hP hS => ?_)
      refine W.eq (g2 := F0 m 40 ls [.int (Int32.ofNat (sL si)), .int x3]) rfl ?_
      refine lv_icmp_ge (tgt := 70) hx hb dX5_reads_40 rfl (fun c40 => ?_) (fun c40 => ?_)
      · have h := br_p c40 h
        refine lv_iconst (v := 1) hx hb dX5_reads_70 rfl ?_
        exact ret h hP hS dX5_reads_71
      · have h := br_n c40 h
        refine lv_aload_n hx hb dX5_reads_43 rfl (lv_at hl 0 rfl) ?_
        refine gf_X5_7_Scan_0 X hP dX5_reads_44 ?_
        refine gf_X5_22_Scan_1 X hP dX5_reads_47 ?_
        refine lv_iload_n hx hb dX5_reads_50 rfl (lv_at hl 2 rfl) ?_
        refine lv_iload_n hx hb dX5_reads_51 rfl (lv_at hl 3 rfl) ?_
        refine lv_iadd hx hb dX5_reads_52 ?_
        obtain ⟨hi53, h⟩ := gv_of h
        refine al_Scan_2 X hP hi53 dX5_reads_53 ?_
        refine lv_aload_n hx hb dX5_reads_54 rfl (lv_at hl 1 rfl) ?_
        refine lv_iload_n hx hb dX5_reads_55 rfl (lv_at hl 3 rfl) ?_
        obtain ⟨hi56, h⟩ := gv_of h
        refine str_chr (rest := [.int (t_bytes ((x2 + x3)).toNatClampNeg)]) X hP hl.1 hS hsi hi56 wd_2_194 (Nat.le_of_ble_eq_true rfl) (Nat.le_of_ble_eq_true rfl) (Nat.le_of_ble_eq_true rfl) dX5_reads_56 (fun H locs hP hS => ?_)
        refine W.eq (g2 := F0 m 59 ls [.int (sCh si (x3).toNatClampNeg), .int (t_bytes ((x2 + x3)).toNatClampNeg)]) rfl ?_
        refine lv_icmp_eq (tgt := 64) hx hb dX5_reads_59 rfl (fun c59 => ?_) (fun c59 => ?_)
        · have h := br_p c59 h
          obtain ⟨v1, ev1⟩ : ∃ z : Int32, z = (x3 + 1) := ⟨_, rfl⟩
          have h := lt_at ev1 h
          refine lv_iinc (v := v1) (lv' := [(3, .int v1), (0, .ref a0), (1, .ref (g.2 (60 + si))), (2, .int x2)]) hx hb dX5_reads_64 hl (k := 3) rfl (by rw [ev1]; rfl) (by decide) rfl (fun ls hl => ?_)
          refine lv_goto (tgt := 35) hx hb dX5_reads_67 rfl ?_
          exact ih x2 v1 _ _ _ h hP hS (lv_sub hl [1, 2, 3, 0] rfl)
        · have h := br_n c59 h
          refine lv_iconst (v := 0) hx hb dX5_reads_62 rfl ?_
          exact ret h hP hS dX5_reads_63
  unfold f_X5_reads at h
  refine lv_iload_n hx hb dX5_reads_0 rfl (lv_at hl 2 rfl) ?_
  refine lv_if_lt (tgt := 31) hx hb dX5_reads_1 rfl (fun c1 => ?_) (fun c1 => ?_)
  · have h := br_p c1 h
    exact b31    _ _ _ h hP hS (lv_sub hl [] rfl)
  · have h := br_n c1 h
    refine lv_aload_n hx hb dX5_reads_4 rfl (lv_at hl 0 rfl) ?_
    refine gf_X5_13_Scan_0 X hP dX5_reads_5 ?_
    refine lv_aload_n hx hb dX5_reads_8 rfl (lv_at hl 0 rfl) ?_
    refine gf_X5_7_Scan_0 X hP dX5_reads_9 ?_
    refine gf_X5_17_Scan_1 X hP dX5_reads_12 ?_
    refine lv_icmp_gt (tgt := 31) hx hb dX5_reads_15 rfl (fun c15 => ?_) (fun c15 => ?_)
    · have h := br_p c15 h
      exact b31    _ _ _ h hP hS (lv_sub hl [] rfl)
    · have h := br_n c15 h
      refine lv_aload_n hx hb dX5_reads_18 rfl (lv_at hl 0 rfl) ?_
      refine gf_X5_13_Scan_0 X hP dX5_reads_19 ?_
      refine lv_iload_n hx hb dX5_reads_22 rfl (lv_at hl 2 rfl) ?_
      refine lv_isub hx hb dX5_reads_23 ?_
      refine lv_aload_n hx hb dX5_reads_24 rfl (lv_at hl 1 rfl) ?_
      refine str_len (rest := [.int (s_at - p1)]) X hP hl.1 hS hsi wd_2_184 (Nat.le_of_ble_eq_true rfl) (Nat.le_of_ble_eq_true rfl) (Nat.le_of_ble_eq_true rfl) dX5_reads_25 (fun H locs hP hS => ?_)
      refine W.eq (g2 := F0 m 28 ls [.int (Int32.ofNat (sL si)), .int (s_at - p1)]) rfl ?_
      refine lv_icmp_eq (tgt := 33) hx hb dX5_reads_28 rfl (fun c28 => ?_) (fun c28 => ?_)
      · have h := br_p c28 h
        refine lv_iconst (v := 0) hx hb dX5_reads_33 rfl ?_
        refine lv_istore_n (lv' := [(3, .int 0), (0, .ref a0), (1, .ref (g.2 (60 + si))), (2, .int p1)]) hx hb dX5_reads_34 rfl hl (by decide) rfl (fun ls hl => ?_)
        exact l35  FU p1 (0 : Int32) _ _ _ h hP hS (lv_sub hl [1, 2, 3, 0] rfl)
      · have h := br_n c28 h
        exact b31    _ _ _ h hP hS (lv_sub hl [] rfl)
abbrev rm_X5_isOnDigit : Room := { frames := 1, cells := 0, slots := 0, locals := 20 }
set_option maxRecDepth 100000 in
set_option maxHeartbeats 4000000 in
theorem c_X5_isOnDigit {g : gT} {l : Launch} {A : Nat → Prop} {a0 a1 a2 : Nat} {s_at : Int32} {t_length : Int32} {t_bytes : Nat → Int32}  {o : Bool} (h : f_X5_isOnDigit  s_at t_length t_bytes = some o) : Std g l yX5_isOnDigit (.code yX5_isOnDigit cX5_isOnDigit 1 (some .boolean) :: gw) rm_X5_isOnDigit A [.ref a0] (wScan g a0 a1 a2 s_at t_length t_bytes) (wScan g a0 a1 a2 s_at t_length t_bytes) (some (.int (bI o))) := by
  refine std_z (own := RX5) (by decide +kernel) rfl (Nat.le_of_ble_eq_true rfl) ?_
  intro p e s m args below meth c Q X ret H locs hP hS ls hl
  have hx := X.1
  have hb := X.2.1
  have hl : lv_has ls 1 [(0, .ref a0)] := hl
  have ret : ∀ {H : Heap} {locs : List Loc} {pc : Nat} {ls : Array Slot} {v : Bool} , some (v) = some o → WP g A (wScan g a0 a1 a2 s_at t_length t_bytes) H → va_S A s.heap H locs → decode cX5_isOnDigit pc = .ok (.ireturn, 1) → W p l e rm_X5_isOnDigit s m args below meth c H locs 0 0 Q (F0 m pc ls [.int (bI v)]) := by
    intro H locs pc ls v h hP hS hd
    cases h
    exact ret hP hS hd
  have b22 : ∀  (H : Heap) (locs : List Loc) (ls : Array Slot), f_X5_isOnDigit_b22  s_at t_length t_bytes   = some o → WP g A (wScan g a0 a1 a2 s_at t_length t_bytes) H → va_S A s.heap H locs → lv_has ls 1 [] → W p l e rm_X5_isOnDigit s m args below meth c H locs 0 0 Q (F0 m 22 ls []) := by
    intro   H locs ls h hP hS hl
    unfold f_X5_isOnDigit_b22 at h
    refine lv_iconst (v := 0) hx hb dX5_isOnDigit_22 rfl ?_
    exact ret h hP hS dX5_isOnDigit_23
  unfold f_X5_isOnDigit at h
  refine lv_aload_n hx hb dX5_isOnDigit_0 rfl (lv_at hl 0 rfl) ?_
  obtain ⟨o1, hco1, h⟩ := bd_of h
  refine kV (rest := []) X dX5_isOnDigit_1 wd_2_166 mw_X5_here wd_2_168 wp_1_12 hP (k0 := 0) rfl rfl rfl hS (fun _ z => z) (c_X5_here hco1) rfl hl.1 rfl (Nat.le_of_ble_eq_true rfl) rfl rfl ⟨Nat.le_of_ble_eq_true rfl, Nat.le_of_ble_eq_true rfl⟩ (fun H locs hP _ _ hS => ?_)
  refine W.eq (g2 := F0 m 4 ls [.int o1]) rfl ?_
  refine lv_bipush (v := 48) hx hb dX5_isOnDigit_4 rfl ?_
  refine lv_icmp_lt (tgt := 22) hx hb dX5_isOnDigit_6 rfl (fun c6 => ?_) (fun c6 => ?_)
  · have h := br_p c6 h
    exact b22    _ _ _ h hP hS (lv_sub hl [] rfl)
  · have h := br_n c6 h
    refine lv_aload_n hx hb dX5_isOnDigit_9 rfl (lv_at hl 0 rfl) ?_
    obtain ⟨o2, hco2, h⟩ := bd_of h
    refine kV (rest := []) X dX5_isOnDigit_10 wd_2_166 mw_X5_here wd_2_168 wp_1_12 hP (k0 := 0) rfl rfl rfl hS (fun _ z => z) (c_X5_here hco2) rfl hl.1 rfl (Nat.le_of_ble_eq_true rfl) rfl rfl ⟨Nat.le_of_ble_eq_true rfl, Nat.le_of_ble_eq_true rfl⟩ (fun H locs hP _ _ hS => ?_)
    refine W.eq (g2 := F0 m 13 ls [.int o2]) rfl ?_
    refine lv_bipush (v := 57) hx hb dX5_isOnDigit_13 rfl ?_
    refine jx1 h (P := fun (v3 : Bool) => ∀ ls : Array Slot, lv_has ls 1 [] → W p l e rm_X5_isOnDigit s m args below meth c H locs 0 0 Q (F0 m 23 ls [.int (bI v3)])) ?_ ?_
    · intro v3 h ls hl
      exact ret h hP hS dX5_isOnDigit_23
    · intro J h
      refine lv_icmp_gt (tgt := 22) hx hb dX5_isOnDigit_15 rfl (fun c15 => ?_) (fun c15 => ?_)
      · refine lv_iconst (v := 0) hx hb dX5_isOnDigit_22 rfl ?_
        exact J _ (lt_ip c15 h) ls (lv_sub hl [] rfl)
      · refine lv_iconst (v := 1) hx hb dX5_isOnDigit_18 rfl ?_
        refine lv_goto (tgt := 23) hx hb dX5_isOnDigit_19 rfl ?_
        exact J _ (lt_in c15 h) ls (lv_sub hl [] rfl)
