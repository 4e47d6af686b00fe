/-! ===== the constructors ===== -/
abbrev rm_X6_init : Room := { frames := 1, cells := 1, slots := 400, locals := 12 }
set_option maxRecDepth 100000 in
set_option maxHeartbeats 4000000 in
theorem c_X6_init {g : gT} {l : Launch} {h : Nat} : CM g l yX6_init cX6_init 1 rm_X6_init h (.inr (3, [.null, .int 0])) [] (fun q => [(h, .inr (3, [.ref (q 1), .int 0])), ((q 1), .inl (g.2 0, 400, .inl (fun _ => 0)))]) 1 400 := by
  refine std_c (own := RX6) (by decide +kernel) rfl rfl (Nat.le_of_ble_eq_true rfl) ?_
  intro p e s m args below meth c Q A X hin hA ret H locs hP hS ls hl
  have hx := X.1
  have hb := X.2.1
  have hl : lv_has ls 1 [(0, .ref h)] := hl
  refine lv_aload_n hx hb dX6_init_0 rfl (lv_at hl 0 rfl) ?_
  refine objI X (tg_1 (List.mem_of_getElem? (i := 37) rfl) rfl) dX6_init_1 hl.1 (Nat.le_of_ble_eq_true rfl) (Nat.le_of_ble_eq_true rfl) ?_
  refine W.eq (g2 := F0 m 4 ls []) rfl ?_
  refine lv_aload_n hx hb dX6_init_4 rfl (lv_at hl 0 rfl) ?_
  refine lv_sipush (v := 400) hx hb dX6_init_5 rfl ?_
  refine na_I (N := 400) X hA hP hS (by decide +kernel) (by decide +kernel) (Nat.le_of_ble_eq_true rfl) (Nat.le_of_ble_eq_true rfl) (Nat.le_of_ble_eq_true rfl) dX6_init_8 (fun q8 H hP hS => ?_)
  have hP : WP g A [(h, .inr (3, [.null, .int 0])), (q8, .inl (g.2 0, 400, .inl (fun _ => 0)))] H := hP
  refine W.widen (k := 1) (n := 400) (Nat.le_of_ble_eq_true rfl) (Nat.le_of_ble_eq_true rfl) ?_
  refine va_putF (D := g.1) (ci := 3) (v := .ref q8) (ty := .array .int) (C := RX6) (T := TX6) (N := 2) hx hb X.2.2.2.2.1 lay_X6 tyX6 tyX6_ok nmX6 X.2.2.2.1 X.2.2.2.2.2.2.1 hP.1 hP.2 hS 0 rfl rfl 0 (by decide) (X.2.2.2.2.1 _ (tg_1 (List.mem_of_getElem? (i := 38) rfl) rfl)) (fun _ h => h) rfl hin rfl (by decide +kernel) rfl rfl (Nat.le_of_ble_eq_true rfl) dX6_init_10 (fun H locs h1 h2 hS => ?_)
  have hP : WP g A [(h, .inr (3, [.ref q8, .int 0])), (q8, .inl (g.2 0, 400, .inl (fun _ => 0)))] H := ⟨h1, h2⟩
  exact ret (fun k => ([h, q8] : List Nat).getD k 0) hP hS dX6_init_13
abbrev rm_X5_init : Room := { frames := 1, cells := 0, slots := 0, locals := 12 }
set_option maxRecDepth 100000 in
set_option maxHeartbeats 4000000 in
theorem c_X5_init {g : gT} {l : Launch} {h tp : Nat} : CM g l yX5_init cX5_init 2 rm_X5_init h (.inr (2, [.null, .int 0])) [.ref tp] (fun q => [(h, .inr (2, [.ref tp, .int 0]))]) 0 0 := by
  refine std_c (own := RX5) (by decide +kernel) rfl rfl (Nat.le_of_ble_eq_true rfl) ?_
  intro p e s m args below meth c Q A X hin hA ret H locs hP hS ls hl
  have hx := X.1
  have hb := X.2.1
  have hl : lv_has ls 2 [(0, .ref h), (1, .ref tp)] := hl
  refine lv_aload_n hx hb dX5_init_0 rfl (lv_at hl 0 rfl) ?_
  refine objI X (tg_1 (List.mem_of_getElem? (i := 60) rfl) rfl) dX5_init_1 hl.1 (Nat.le_of_ble_eq_true rfl) (Nat.le_of_ble_eq_true rfl) ?_
  refine W.eq (g2 := F0 m 4 ls []) rfl ?_
  refine lv_aload_n hx hb dX5_init_4 rfl (lv_at hl 0 rfl) ?_
  refine lv_aload_n hx hb dX5_init_5 rfl (lv_at hl 1 rfl) ?_
  refine va_putF (D := g.1) (ci := 2) (v := .ref tp) (ty := .object "TurnShifts$Tape") (C := RX5) (T := TX5) (N := 2) hx hb X.2.2.2.2.1 lay_X5 tyX5 tyX5_ok nmX5 X.2.2.2.1 X.2.2.2.2.2.2.1 hP.1 hP.2 hS 0 rfl rfl 0 (by decide) (X.2.2.2.2.1 _ (tg_1 (List.mem_of_getElem? (i := 61) rfl) rfl)) (fun _ h => h) rfl hin rfl (by decide +kernel) rfl rfl (Nat.le_of_ble_eq_true rfl) dX5_init_6 (fun H locs h1 h2 hS => ?_)
  have hP : WP g A [(h, .inr (2, [.ref tp, .int 0]))] H := ⟨h1, h2⟩
  exact ret (fun k => ([h] : List Nat).getD k 0) hP hS dX5_init_9
abbrev rm_X7_init : Room := { frames := 1, cells := 0, slots := 0, locals := 12 }
set_option maxRecDepth 100000 in
set_option maxHeartbeats 4000000 in
theorem c_X7_init {g : gT} {l : Launch} {h tp : Nat} : CM g l yX7_init cX7_init 2 rm_X7_init h (.inr (4, [.null, .long 0, .long 0, .long 0, .int 0, .int 0, .long 0, .long 0])) [.ref tp] (fun q => [(h, .inr (4, [.ref tp, .long 0, .long 0, .long 0, .int 0, .int 0, .long 0, .long 0]))]) 0 0 := by
  refine std_c (own := RX7) (by decide +kernel) rfl rfl (Nat.le_of_ble_eq_true rfl) ?_
  intro p e s m args below meth c Q A X hin hA ret H locs hP hS ls hl
  have hx := X.1
  have hb := X.2.1
  have hl : lv_has ls 2 [(0, .ref h), (1, .ref tp)] := hl
  refine lv_aload_n hx hb dX7_init_0 rfl (lv_at hl 0 rfl) ?_
  refine objI X (tg_1 (List.mem_of_getElem? (i := 202) rfl) rfl) dX7_init_1 hl.1 (Nat.le_of_ble_eq_true rfl) (Nat.le_of_ble_eq_true rfl) ?_
  refine W.eq (g2 := F0 m 4 ls []) rfl ?_
  refine lv_aload_n hx hb dX7_init_4 rfl (lv_at hl 0 rfl) ?_
  refine lv_aload_n hx hb dX7_init_5 rfl (lv_at hl 1 rfl) ?_
  refine va_putF (D := g.1) (ci := 4) (v := .ref tp) (ty := .object "TurnShifts$Unit") (C := RX7) (T := TX7) (N := 8) hx hb X.2.2.2.2.1 lay_X7 tyX7 tyX7_ok nmX7 X.2.2.2.1 X.2.2.2.2.2.2.1 hP.1 hP.2 hS 0 rfl rfl 0 (by decide) (X.2.2.2.2.1 _ (tg_1 (List.mem_of_getElem? (i := 203) rfl) rfl)) (fun _ h => h) rfl hin rfl (by decide +kernel) rfl rfl (Nat.le_of_ble_eq_true rfl) dX7_init_6 (fun H locs h1 h2 hS => ?_)
  have hP : WP g A [(h, .inr (4, [.ref tp, .long 0, .long 0, .long 0, .int 0, .int 0, .long 0, .long 0]))] H := ⟨h1, h2⟩
  exact ret (fun k => ([h] : List Nat).getD k 0) hP hS dX7_init_9
abbrev rm_X9_init : Room := { frames := 2, cells := 1, slots := 2, locals := 33 }
set_option maxRecDepth 100000 in
set_option maxHeartbeats 4000000 in
theorem c_X9_init {g : gT} {l : Launch} {h tp : Nat} : CM g l yX9_init cX9_init 2 rm_X9_init h (.inr (6, [.null, .int 0, .int 0, .int 0, .int 0, .int 0, .int 0])) [.ref tp] (fun q => [(h, .inr (6, [.ref (q 1), .int 0, .int 0, .int 0, .int 0, .int 0, .int 0])), ((q 1), .inr (2, [.ref tp, .int 0]))]) 1 2 := by
  refine std_c (own := RX9) (by decide +kernel) rfl rfl (Nat.le_of_ble_eq_true rfl) ?_
  intro p e s m args below meth c Q A X hin hA ret H locs hP hS ls hl
  have hx := X.1
  have hb := X.2.1
  have hl : lv_has ls 2 [(0, .ref h), (1, .ref tp)] := hl
  refine lv_aload_n hx hb dX9_init_0 rfl (lv_at hl 0 rfl) ?_
  refine objI X (tg_1 (List.mem_of_getElem? (i := 54) rfl) rfl) dX9_init_1 hl.1 (Nat.le_of_ble_eq_true rfl) (Nat.le_of_ble_eq_true rfl) ?_
  refine W.eq (g2 := F0 m 4 ls []) rfl ?_
  refine lv_aload_n hx hb dX9_init_4 rfl (lv_at hl 0 rfl) ?_
  refine newC (C := RX5) (T := TX5) (N := 2) (ci := 2) (ty := tyX5) (fs := [.null, .int 0]) X hA hP hS lay_X5 tyX5_ok (tg_1 (List.mem_of_getElem? (i := 55) rfl) rfl) (tg_1 (List.mem_of_getElem? (i := 56) rfl) rfl) (tg_1 (List.mem_of_getElem? (i := 4) rfl) rfl) rfl (by decide +kernel) (Nat.le_of_ble_eq_true rfl) (Nat.le_of_ble_eq_true rfl) dX9_init_5 (fun q5 H hP hS => ?_)
  have hP : WP g A [(h, .inr (6, [.null, .int 0, .int 0, .int 0, .int 0, .int 0, .int 0])), (q5, .inr (2, [.null, .int 0]))] H := hP
  refine W.widen (k := 1) (n := 2) (Nat.le_of_ble_eq_true rfl) (Nat.le_of_ble_eq_true rfl) ?_
  refine lv_dup hx hb dX9_init_8 rfl ?_
  refine lv_aload_n hx hb dX9_init_9 rfl (lv_at hl 1 rfl) ?_
  have hPs : WP g A ([(h, .inr (6, [.null, .int 0, .int 0, .int 0, .int 0, .int 0, .int 0]))] ++ [(q5, .inr (2, [.null, .int 0]))]) H := hP
  refine ctN (rest := [.ref q5, .ref h]) X hA dX9_init_10 (tn_1 (List.mem_of_getElem? (i := 57) rfl) rfl) mw_X5_init (tg_1 (List.mem_of_getElem? (i := 58) rfl) rfl) rfl hPs hS (c_X5_init) rfl hl.1 rfl (Nat.le_of_ble_eq_true rfl) rfl rfl ⟨(Nat.le_of_ble_eq_true rfl), (Nat.le_of_ble_eq_true rfl)⟩ ⟨(Nat.le_of_ble_eq_true rfl), (Nat.le_of_ble_eq_true rfl)⟩ (fun r10 H locs hP hS => ?_)
  have hP : WP g A [(h, .inr (6, [.null, .int 0, .int 0, .int 0, .int 0, .int 0, .int 0])), (q5, .inr (2, [.ref tp, .int 0]))] H := hP
  refine W.eq (g2 := F0 m 13 ls [.ref q5, .ref h]) rfl ?_
  refine W.widen (k := 1) (n := 2) (Nat.le_of_ble_eq_true rfl) (Nat.le_of_ble_eq_true rfl) ?_
  refine va_putF (D := g.1) (ci := 6) (v := .ref q5) (ty := .object "TurnShifts$Scan") (C := RX9) (T := TX9) (N := 7) hx hb X.2.2.2.2.1 lay_X9 tyX9 tyX9_ok nmX9 X.2.2.2.1 X.2.2.2.2.2.2.1 hP.1 hP.2 hS 0 rfl rfl 0 (by decide) (X.2.2.2.2.1 _ (tg_1 (List.mem_of_getElem? (i := 70) rfl) rfl)) (fun _ h => h) rfl hin rfl (by decide +kernel) rfl rfl (Nat.le_of_ble_eq_true rfl) dX9_init_13 (fun H locs h1 h2 hS => ?_)
  have hP : WP g A [(h, .inr (6, [.ref q5, .int 0, .int 0, .int 0, .int 0, .int 0, .int 0])), (q5, .inr (2, [.ref tp, .int 0]))] H := ⟨h1, h2⟩
  exact ret (fun k => ([h, q5] : List Nat).getD k 0) hP hS dX9_init_16
abbrev rm_X3_init : Room := { frames := 2, cells := 4, slots := 422, locals := 33 }
set_option maxRecDepth 100000 in
set_option maxHeartbeats 4000000 in
theorem c_X3_init {g : gT} {l : Launch} {h tp : Nat} : CM g l yX3_init cX3_init 2 rm_X3_init h (.inr (1, [.null, .null, .null, .null, .int 0])) [.ref tp] (fun q => [(h, .inr (1, [.ref (q 1), .ref (q 2), .ref (q 3), .ref (q 4), .int 0])), ((q 1), .inr (2, [.ref tp, .int 0])), ((q 2), .inl (g.2 0, 60, .inl (fun _ => 0))), ((q 3), .inl (g.2 0, 180, .inl (fun _ => 0))), ((q 4), .inl (g.2 0, 180, .inl (fun _ => 0)))]) 4 422 := by
  refine std_c (own := RX3) (by decide +kernel) rfl rfl (Nat.le_of_ble_eq_true rfl) ?_
  intro p e s m args below meth c Q A X hin hA ret H locs hP hS ls hl
  have hx := X.1
  have hb := X.2.1
  have hl : lv_has ls 2 [(0, .ref h), (1, .ref tp)] := hl
  refine lv_aload_n hx hb dX3_init_0 rfl (lv_at hl 0 rfl) ?_
  refine objI X (tg_1 (List.mem_of_getElem? (i := 100) rfl) rfl) dX3_init_1 hl.1 (Nat.le_of_ble_eq_true rfl) (Nat.le_of_ble_eq_true rfl) ?_
  refine W.eq (g2 := F0 m 4 ls []) rfl ?_
  refine lv_aload_n hx hb dX3_init_4 rfl (lv_at hl 0 rfl) ?_
  refine lv_bipush (v := 60) hx hb dX3_init_5 rfl ?_
  refine na_I (N := 60) X hA hP hS (by decide +kernel) (by decide +kernel) (Nat.le_of_ble_eq_true rfl) (Nat.le_of_ble_eq_true rfl) (Nat.le_of_ble_eq_true rfl) dX3_init_7 (fun q7 H hP hS => ?_)
  have hP : WP g A [(h, .inr (1, [.null, .null, .null, .null, .int 0])), (q7, .inl (g.2 0, 60, .inl (fun _ => 0)))] H := hP
  refine W.widen (k := 1) (n := 60) (Nat.le_of_ble_eq_true rfl) (Nat.le_of_ble_eq_true rfl) ?_
  refine va_putF (D := g.1) (ci := 1) (v := .ref q7) (ty := .array .int) (C := RX3) (T := TX3) (N := 5) hx hb X.2.2.2.2.1 lay_X3 tyX3 tyX3_ok nmX3 X.2.2.2.1 X.2.2.2.2.2.2.1 hP.1 hP.2 hS 0 rfl rfl 1 (by decide) (X.2.2.2.2.1 _ (tg_1 (List.mem_of_getElem? (i := 104) rfl) rfl)) (fun _ h => h) rfl hin rfl (by decide +kernel) rfl rfl (Nat.le_of_ble_eq_true rfl) dX3_init_9 (fun H locs h1 h2 hS => ?_)
  have hP : WP g A [(h, .inr (1, [.null, .ref q7, .null, .null, .int 0])), (q7, .inl (g.2 0, 60, .inl (fun _ => 0)))] H := ⟨h1, h2⟩
  refine lv_aload_n hx hb dX3_init_12 rfl (lv_at hl 0 rfl) ?_
  refine lv_sipush (v := 180) hx hb dX3_init_13 rfl ?_
  refine na_I (N := 180) X hA hP hS (by decide +kernel) (by decide +kernel) (Nat.le_of_ble_eq_true rfl) (Nat.le_of_ble_eq_true rfl) (Nat.le_of_ble_eq_true rfl) dX3_init_16 (fun q16 H hP hS => ?_)
  have hP : WP g A [(h, .inr (1, [.null, .ref q7, .null, .null, .int 0])), (q7, .inl (g.2 0, 60, .inl (fun _ => 0))), (q16, .inl (g.2 0, 180, .inl (fun _ => 0)))] H := hP
  refine W.widen (k := 2) (n := 240) (Nat.le_of_ble_eq_true rfl) (Nat.le_of_ble_eq_true rfl) ?_
  refine va_putF (D := g.1) (ci := 1) (v := .ref q16) (ty := .array .int) (C := RX3) (T := TX3) (N := 5) hx hb X.2.2.2.2.1 lay_X3 tyX3 tyX3_ok nmX3 X.2.2.2.1 X.2.2.2.2.2.2.1 hP.1 hP.2 hS 0 rfl rfl 2 (by decide) (X.2.2.2.2.1 _ (tg_1 (List.mem_of_getElem? (i := 106) rfl) rfl)) (fun _ h => h) rfl hin rfl (by decide +kernel) rfl rfl (Nat.le_of_ble_eq_true rfl) dX3_init_18 (fun H locs h1 h2 hS => ?_)
  have hP : WP g A [(h, .inr (1, [.null, .ref q7, .ref q16, .null, .int 0])), (q7, .inl (g.2 0, 60, .inl (fun _ => 0))), (q16, .inl (g.2 0, 180, .inl (fun _ => 0)))] H := ⟨h1, h2⟩
  refine lv_aload_n hx hb dX3_init_21 rfl (lv_at hl 0 rfl) ?_
  refine lv_sipush (v := 180) hx hb dX3_init_22 rfl ?_
  refine na_I (N := 180) X hA hP hS (by decide +kernel) (by decide +kernel) (Nat.le_of_ble_eq_true rfl) (Nat.le_of_ble_eq_true rfl) (Nat.le_of_ble_eq_true rfl) dX3_init_25 (fun q25 H hP hS => ?_)
  have hP : WP g A [(h, .inr (1, [.null, .ref q7, .ref q16, .null, .int 0])), (q7, .inl (g.2 0, 60, .inl (fun _ => 0))), (q16, .inl (g.2 0, 180, .inl (fun _ => 0))), (q25, .inl (g.2 0, 180, .inl (fun _ => 0)))] H := hP
  refine W.widen (k := 3) (n := 420) (Nat.le_of_ble_eq_true rfl) (Nat.le_of_ble_eq_true rfl) ?_
  refine va_putF (D := g.1) (ci := 1) (v := .ref q25) (ty := .array .int) (C := RX3) (T := TX3) (N := 5) hx hb X.2.2.2.2.1 lay_X3 tyX3 tyX3_ok nmX3 X.2.2.2.1 X.2.2.2.2.2.2.1 hP.1 hP.2 hS 0 rfl rfl 3 (by decide) (X.2.2.2.2.1 _ (tg_1 (List.mem_of_getElem? (i := 108) rfl) rfl)) (fun _ h => h) rfl hin rfl (by decide +kernel) rfl rfl (Nat.le_of_ble_eq_true rfl) dX3_init_27 (fun H locs h1 h2 hS => ?_)
  have hP : WP g A [(h, .inr (1, [.null, .ref q7, .ref q16, .ref q25, .int 0])), (q7, .inl (g.2 0, 60, .inl (fun _ => 0))), (q16, .inl (g.2 0, 180, .inl (fun _ => 0))), (q25, .inl (g.2 0, 180, .inl (fun _ => 0)))] H := ⟨h1, h2⟩
  refine lv_aload_n hx hb dX3_init_30 rfl (lv_at hl 0 rfl) ?_
  refine newC (C := RX5) (T := TX5) (N := 2) (ci := 2) (ty := tyX5) (fs := [.null, .int 0]) X hA hP hS lay_X5 tyX5_ok (tg_1 (List.mem_of_getElem? (i := 101) rfl) rfl) (tg_1 (List.mem_of_getElem? (i := 56) rfl) rfl) (tg_1 (List.mem_of_getElem? (i := 4) rfl) rfl) rfl (by decide +kernel) (Nat.le_of_ble_eq_true rfl) (Nat.le_of_ble_eq_true rfl) dX3_init_31 (fun q31 H hP hS => ?_)
  have hP : WP g A [(h, .inr (1, [.null, .ref q7, .ref q16, .ref q25, .int 0])), (q7, .inl (g.2 0, 60, .inl (fun _ => 0))), (q16, .inl (g.2 0, 180, .inl (fun _ => 0))), (q25, .inl (g.2 0, 180, .inl (fun _ => 0))), (q31, .inr (2, [.null, .int 0]))] H := hP
  refine W.widen (k := 4) (n := 422) (Nat.le_of_ble_eq_true rfl) (Nat.le_of_ble_eq_true rfl) ?_
  refine lv_dup hx hb dX3_init_34 rfl ?_
  refine lv_aload_n hx hb dX3_init_35 rfl (lv_at hl 1 rfl) ?_
  have hPs : WP g A ([(h, .inr (1, [.null, .ref q7, .ref q16, .ref q25, .int 0])), (q7, .inl (g.2 0, 60, .inl (fun _ => 0))), (q16, .inl (g.2 0, 180, .inl (fun _ => 0))), (q25, .inl (g.2 0, 180, .inl (fun _ => 0)))] ++ [(q31, .inr (2, [.null, .int 0]))]) H := hP
  refine ctN (rest := [.ref q31, .ref h]) X hA dX3_init_36 (tn_1 (List.mem_of_getElem? (i := 102) rfl) rfl) mw_X5_init (tg_1 (List.mem_of_getElem? (i := 58) rfl) rfl) rfl hPs hS (c_X5_init) rfl hl.1 rfl (Nat.le_of_ble_eq_true rfl) rfl rfl ⟨(Nat.le_of_ble_eq_true rfl), (Nat.le_of_ble_eq_true rfl)⟩ ⟨(Nat.le_of_ble_eq_true rfl), (Nat.le_of_ble_eq_true rfl)⟩ (fun r36 H locs hP hS => ?_)
  have hP : WP g A [(h, .inr (1, [.null, .ref q7, .ref q16, .ref q25, .int 0])), (q7, .inl (g.2 0, 60, .inl (fun _ => 0))), (q16, .inl (g.2 0, 180, .inl (fun _ => 0))), (q25, .inl (g.2 0, 180, .inl (fun _ => 0))), (q31, .inr (2, [.ref tp, .int 0]))] H := hP
  refine W.eq (g2 := F0 m 39 ls [.ref q31, .ref h]) rfl ?_
  refine W.widen (k := 4) (n := 422) (Nat.le_of_ble_eq_true rfl) (Nat.le_of_ble_eq_true rfl) ?_
  refine va_putF (D := g.1) (ci := 1) (v := .ref q31) (ty := .object "TurnShifts$Scan") (C := RX3) (T := TX3) (N := 5) hx hb X.2.2.2.2.1 lay_X3 tyX3 tyX3_ok nmX3 X.2.2.2.1 X.2.2.2.2.2.2.1 hP.1 hP.2 hS 0 rfl rfl 0 (by decide) (X.2.2.2.2.1 _ (tg_1 (List.mem_of_getElem? (i := 103) rfl) rfl)) (fun _ h => h) rfl hin rfl (by decide +kernel) rfl rfl (Nat.le_of_ble_eq_true rfl) dX3_init_39 (fun H locs h1 h2 hS => ?_)
  have hP : WP g A [(h, .inr (1, [.ref q31, .ref q7, .ref q16, .ref q25, .int 0])), (q7, .inl (g.2 0, 60, .inl (fun _ => 0))), (q16, .inl (g.2 0, 180, .inl (fun _ => 0))), (q25, .inl (g.2 0, 180, .inl (fun _ => 0))), (q31, .inr (2, [.ref tp, .int 0]))] H := ⟨h1, h2⟩
  have hP : WP g A [(h, .inr (1, [.ref q31, .ref q7, .ref q16, .ref q25, .int 0])), (q31, .inr (2, [.ref tp, .int 0])), (q7, .inl (g.2 0, 60, .inl (fun _ => 0))), (q16, .inl (g.2 0, 180, .inl (fun _ => 0))), (q25, .inl (g.2 0, 180, .inl (fun _ => 0)))] H := ⟨hP.1.sub [0, 4, 1, 2, 3] rfl, hP.2.sub [0, 4, 1, 2, 3] (by decide) rfl⟩
  exact ret (fun k => ([h, q31, q7, q16, q25] : List Nat).getD k 0) hP hS dX3_init_42
abbrev rm_X8_init : Room := { frames := 1, cells := 5, slots := 246, locals := 12 }
set_option maxRecDepth 100000 in
set_option maxHeartbeats 4000000 in
theorem c_X8_init {g : gT} {l : Launch} {h : Nat} : CM g l yX8_init cX8_init 1 rm_X8_init h (.inr (5, [.int 0, .int 0, .int 0, .int 0, .int 0, .int 0, .long 0, .long 0, .long 0, .null, .null, .null, .null, .null])) [] (fun q => [(h, .inr (5, [.int 0, .int 0, .int 0, .int 0, .int 0, .int 0, .long 0, .long 0, .long 0, .ref (q 1), .ref (q 2), .ref (q 3), .ref (q 4), .ref (q 5)])), ((q 1), .inl (g.2 0, 72, .inl (fun _ => 0))), ((q 2), .inl (g.2 1, 72, .inr (.inl (fun _ => 0)))), ((q 3), .inl (g.2 1, 3, .inr (.inl (fun _ => 0)))), ((q 4), .inl (g.2 1, 3, .inr (.inl (fun _ => 0)))), ((q 5), .inl (g.2 0, 96, .inl (fun _ => 0)))]) 5 246 := by
  refine std_c (own := RX8) (by decide +kernel) rfl rfl (Nat.le_of_ble_eq_true rfl) ?_
  intro p e s m args below meth c Q A X hin hA ret H locs hP hS ls hl
  have hx := X.1
  have hb := X.2.1
  have hl : lv_has ls 1 [(0, .ref h)] := hl
  refine lv_aload_n hx hb dX8_init_0 rfl (lv_at hl 0 rfl) ?_
  refine objI X (tg_1 (List.mem_of_getElem? (i := 128) rfl) rfl) dX8_init_1 hl.1 (Nat.le_of_ble_eq_true rfl) (Nat.le_of_ble_eq_true rfl) ?_
  refine W.eq (g2 := F0 m 4 ls []) rfl ?_
  refine lv_aload_n hx hb dX8_init_4 rfl (lv_at hl 0 rfl) ?_
  refine lv_bipush (v := 72) hx hb dX8_init_5 rfl ?_
  refine na_I (N := 72) X hA hP hS (by decide +kernel) (by decide +kernel) (Nat.le_of_ble_eq_true rfl) (Nat.le_of_ble_eq_true rfl) (Nat.le_of_ble_eq_true rfl) dX8_init_7 (fun q7 H hP hS => ?_)
  have hP : WP g A [(h, .inr (5, [.int 0, .int 0, .int 0, .int 0, .int 0, .int 0, .long 0, .long 0, .long 0, .null, .null, .null, .null, .null])), (q7, .inl (g.2 0, 72, .inl (fun _ => 0)))] H := hP
  refine W.widen (k := 1) (n := 72) (Nat.le_of_ble_eq_true rfl) (Nat.le_of_ble_eq_true rfl) ?_
  refine va_putF (D := g.1) (ci := 5) (v := .ref q7) (ty := .array .int) (C := RX8) (T := TX8) (N := 14) hx hb X.2.2.2.2.1 lay_X8 tyX8 tyX8_ok nmX8 X.2.2.2.1 X.2.2.2.2.2.2.1 hP.1 hP.2 hS 0 rfl rfl 9 (by decide) (X.2.2.2.2.1 _ (tg_1 (List.mem_of_getElem? (i := 154) rfl) rfl)) (fun _ h => h) rfl hin rfl (by decide +kernel) rfl rfl (Nat.le_of_ble_eq_true rfl) dX8_init_9 (fun H locs h1 h2 hS => ?_)
  have hP : WP g A [(h, .inr (5, [.int 0, .int 0, .int 0, .int 0, .int 0, .int 0, .long 0, .long 0, .long 0, .ref q7, .null, .null, .null, .null])), (q7, .inl (g.2 0, 72, .inl (fun _ => 0)))] H := ⟨h1, h2⟩
  refine lv_aload_n hx hb dX8_init_12 rfl (lv_at hl 0 rfl) ?_
  refine lv_bipush (v := 72) hx hb dX8_init_13 rfl ?_
  refine na_L (N := 72) X hA hP hS (by decide +kernel) (by decide +kernel) (Nat.le_of_ble_eq_true rfl) (Nat.le_of_ble_eq_true rfl) (Nat.le_of_ble_eq_true rfl) dX8_init_15 (fun q15 H hP hS => ?_)
  have hP : WP g A [(h, .inr (5, [.int 0, .int 0, .int 0, .int 0, .int 0, .int 0, .long 0, .long 0, .long 0, .ref q7, .null, .null, .null, .null])), (q7, .inl (g.2 0, 72, .inl (fun _ => 0))), (q15, .inl (g.2 1, 72, .inr (.inl (fun _ => 0))))] H := hP
  refine W.widen (k := 2) (n := 144) (Nat.le_of_ble_eq_true rfl) (Nat.le_of_ble_eq_true rfl) ?_
  refine va_putF (D := g.1) (ci := 5) (v := .ref q15) (ty := .array .long) (C := RX8) (T := TX8) (N := 14) hx hb X.2.2.2.2.1 lay_X8 tyX8 tyX8_ok nmX8 X.2.2.2.1 X.2.2.2.2.2.2.1 hP.1 hP.2 hS 0 rfl rfl 10 (by decide) (X.2.2.2.2.1 _ (tg_1 (List.mem_of_getElem? (i := 157) rfl) rfl)) (fun _ h => h) rfl hin rfl (by decide +kernel) rfl rfl (Nat.le_of_ble_eq_true rfl) dX8_init_17 (fun H locs h1 h2 hS => ?_)
  have hP : WP g A [(h, .inr (5, [.int 0, .int 0, .int 0, .int 0, .int 0, .int 0, .long 0, .long 0, .long 0, .ref q7, .ref q15, .null, .null, .null])), (q7, .inl (g.2 0, 72, .inl (fun _ => 0))), (q15, .inl (g.2 1, 72, .inr (.inl (fun _ => 0))))] H := ⟨h1, h2⟩
  refine lv_aload_n hx hb dX8_init_20 rfl (lv_at hl 0 rfl) ?_
  refine lv_iconst (v := 3) hx hb dX8_init_21 rfl ?_
  refine na_L (N := 3) X hA hP hS (by decide +kernel) (by decide +kernel) (Nat.le_of_ble_eq_true rfl) (Nat.le_of_ble_eq_true rfl) (Nat.le_of_ble_eq_true rfl) dX8_init_22 (fun q22 H hP hS => ?_)
  have hP : WP g A [(h, .inr (5, [.int 0, .int 0, .int 0, .int 0, .int 0, .int 0, .long 0, .long 0, .long 0, .ref q7, .ref q15, .null, .null, .null])), (q7, .inl (g.2 0, 72, .inl (fun _ => 0))), (q15, .inl (g.2 1, 72, .inr (.inl (fun _ => 0)))), (q22, .inl (g.2 1, 3, .inr (.inl (fun _ => 0))))] H := hP
  refine W.widen (k := 3) (n := 147) (Nat.le_of_ble_eq_true rfl) (Nat.le_of_ble_eq_true rfl) ?_
  refine va_putF (D := g.1) (ci := 5) (v := .ref q22) (ty := .array .long) (C := RX8) (T := TX8) (N := 14) hx hb X.2.2.2.2.1 lay_X8 tyX8 tyX8_ok nmX8 X.2.2.2.1 X.2.2.2.2.2.2.1 hP.1 hP.2 hS 0 rfl rfl 11 (by decide) (X.2.2.2.2.1 _ (tg_1 (List.mem_of_getElem? (i := 160) rfl) rfl)) (fun _ h => h) rfl hin rfl (by decide +kernel) rfl rfl (Nat.le_of_ble_eq_true rfl) dX8_init_24 (fun H locs h1 h2 hS => ?_)
  have hP : WP g A [(h, .inr (5, [.int 0, .int 0, .int 0, .int 0, .int 0, .int 0, .long 0, .long 0, .long 0, .ref q7, .ref q15, .ref q22, .null, .null])), (q7, .inl (g.2 0, 72, .inl (fun _ => 0))), (q15, .inl (g.2 1, 72, .inr (.inl (fun _ => 0)))), (q22, .inl (g.2 1, 3, .inr (.inl (fun _ => 0))))] H := ⟨h1, h2⟩
  refine lv_aload_n hx hb dX8_init_27 rfl (lv_at hl 0 rfl) ?_
  refine lv_iconst (v := 3) hx hb dX8_init_28 rfl ?_
  refine na_L (N := 3) X hA hP hS (by decide +kernel) (by decide +kernel) (Nat.le_of_ble_eq_true rfl) (Nat.le_of_ble_eq_true rfl) (Nat.le_of_ble_eq_true rfl) dX8_init_29 (fun q29 H hP hS => ?_)
  have hP : WP g A [(h, .inr (5, [.int 0, .int 0, .int 0, .int 0, .int 0, .int 0, .long 0, .long 0, .long 0, .ref q7, .ref q15, .ref q22, .null, .null])), (q7, .inl (g.2 0, 72, .inl (fun _ => 0))), (q15, .inl (g.2 1, 72, .inr (.inl (fun _ => 0)))), (q22, .inl (g.2 1, 3, .inr (.inl (fun _ => 0)))), (q29, .inl (g.2 1, 3, .inr (.inl (fun _ => 0))))] H := hP
  refine W.widen (k := 4) (n := 150) (Nat.le_of_ble_eq_true rfl) (Nat.le_of_ble_eq_true rfl) ?_
  refine va_putF (D := g.1) (ci := 5) (v := .ref q29) (ty := .array .long) (C := RX8) (T := TX8) (N := 14) hx hb X.2.2.2.2.1 lay_X8 tyX8 tyX8_ok nmX8 X.2.2.2.1 X.2.2.2.2.2.2.1 hP.1 hP.2 hS 0 rfl rfl 12 (by decide) (X.2.2.2.2.1 _ (tg_1 (List.mem_of_getElem? (i := 162) rfl) rfl)) (fun _ h => h) rfl hin rfl (by decide +kernel) rfl rfl (Nat.le_of_ble_eq_true rfl) dX8_init_31 (fun H locs h1 h2 hS => ?_)
  have hP : WP g A [(h, .inr (5, [.int 0, .int 0, .int 0, .int 0, .int 0, .int 0, .long 0, .long 0, .long 0, .ref q7, .ref q15, .ref q22, .ref q29, .null])), (q7, .inl (g.2 0, 72, .inl (fun _ => 0))), (q15, .inl (g.2 1, 72, .inr (.inl (fun _ => 0)))), (q22, .inl (g.2 1, 3, .inr (.inl (fun _ => 0)))), (q29, .inl (g.2 1, 3, .inr (.inl (fun _ => 0))))] H := ⟨h1, h2⟩
  refine lv_aload_n hx hb dX8_init_34 rfl (lv_at hl 0 rfl) ?_
  refine lv_bipush (v := 96) hx hb dX8_init_35 rfl ?_
  refine na_I (N := 96) X hA hP hS (by decide +kernel) (by decide +kernel) (Nat.le_of_ble_eq_true rfl) (Nat.le_of_ble_eq_true rfl) (Nat.le_of_ble_eq_true rfl) dX8_init_37 (fun q37 H hP hS => ?_)
  have hP : WP g A [(h, .inr (5, [.int 0, .int 0, .int 0, .int 0, .int 0, .int 0, .long 0, .long 0, .long 0, .ref q7, .ref q15, .ref q22, .ref q29, .null])), (q7, .inl (g.2 0, 72, .inl (fun _ => 0))), (q15, .inl (g.2 1, 72, .inr (.inl (fun _ => 0)))), (q22, .inl (g.2 1, 3, .inr (.inl (fun _ => 0)))), (q29, .inl (g.2 1, 3, .inr (.inl (fun _ => 0)))), (q37, .inl (g.2 0, 96, .inl (fun _ => 0)))] H := hP
  refine W.widen (k := 5) (n := 246) (Nat.le_of_ble_eq_true rfl) (Nat.le_of_ble_eq_true rfl) ?_
  refine va_putF (D := g.1) (ci := 5) (v := .ref q37) (ty := .array .int) (C := RX8) (T := TX8) (N := 14) hx hb X.2.2.2.2.1 lay_X8 tyX8 tyX8_ok nmX8 X.2.2.2.1 X.2.2.2.2.2.2.1 hP.1 hP.2 hS 0 rfl rfl 13 (by decide) (X.2.2.2.2.1 _ (tg_1 (List.mem_of_getElem? (i := 165) rfl) rfl)) (fun _ h => h) rfl hin rfl (by decide +kernel) rfl rfl (Nat.le_of_ble_eq_true rfl) dX8_init_39 (fun H locs h1 h2 hS => ?_)
  have hP : WP g A [(h, .inr (5, [.int 0, .int 0, .int 0, .int 0, .int 0, .int 0, .long 0, .long 0, .long 0, .ref q7, .ref q15, .ref q22, .ref q29, .ref q37])), (q7, .inl (g.2 0, 72, .inl (fun _ => 0))), (q15, .inl (g.2 1, 72, .inr (.inl (fun _ => 0)))), (q22, .inl (g.2 1, 3, .inr (.inl (fun _ => 0)))), (q29, .inl (g.2 1, 3, .inr (.inl (fun _ => 0)))), (q37, .inl (g.2 0, 96, .inl (fun _ => 0)))] H := ⟨h1, h2⟩
  exact ret (fun k => ([h, q7, q15, q22, q29, q37] : List Nat).getD k 0) hP hS dX8_init_42
abbrev rm_X1_init : Room := { frames := 1, cells := 8, slots := 720, locals := 12 }
set_option maxRecDepth 100000 in
set_option maxHeartbeats 4000000 in
theorem c_X1_init {g : gT} {l : Launch} {h : Nat} : CM g l yX1_init cX1_init 1 rm_X1_init h (.inr (0, [.null, .null, .null, .null, .null, .null, .null, .null, .int 0, .int 0, .int 0, .int 0])) [] (fun q => [(h, .inr (0, [.ref (q 1), .ref (q 2), .ref (q 3), .ref (q 4), .ref (q 5), .ref (q 6), .ref (q 7), .ref (q 8), .int 0, .int 0, .int 0, .int 0])), ((q 1), .inl (g.2 0, 60, .inl (fun _ => 0))), ((q 2), .inl (g.2 0, 180, .inl (fun _ => 0))), ((q 3), .inl (g.2 0, 180, .inl (fun _ => 0))), ((q 4), .inl (g.2 0, 60, .inl (fun _ => 0))), ((q 5), .inl (g.2 0, 60, .inl (fun _ => 0))), ((q 6), .inl (g.2 0, 60, .inl (fun _ => 0))), ((q 7), .inl (g.2 0, 60, .inl (fun _ => 0))), ((q 8), .inl (g.2 0, 60, .inl (fun _ => 0)))]) 8 720 := by
  refine std_c (own := RX1) (by decide +kernel) rfl rfl (Nat.le_of_ble_eq_true rfl) ?_
  intro p e s m args below meth c Q A X hin hA ret H locs hP hS ls hl
  have hx := X.1
  have hb := X.2.1
  have hl : lv_has ls 1 [(0, .ref h)] := hl
  refine lv_aload_n hx hb dX1_init_0 rfl (lv_at hl 0 rfl) ?_
  refine objI X (tg_2 (List.mem_of_getElem? (i := 46) rfl) rfl) dX1_init_1 hl.1 (Nat.le_of_ble_eq_true rfl) (Nat.le_of_ble_eq_true rfl) ?_
  refine W.eq (g2 := F0 m 4 ls []) rfl ?_
  refine lv_aload_n hx hb dX1_init_4 rfl (lv_at hl 0 rfl) ?_
  refine lv_bipush (v := 60) hx hb dX1_init_5 rfl ?_
  refine na_I (N := 60) X hA hP hS (by decide +kernel) (by decide +kernel) (Nat.le_of_ble_eq_true rfl) (Nat.le_of_ble_eq_true rfl) (Nat.le_of_ble_eq_true rfl) dX1_init_7 (fun q7 H hP hS => ?_)
  have hP : WP g A [(h, .inr (0, [.null, .null, .null, .null, .null, .null, .null, .null, .int 0, .int 0, .int 0, .int 0])), (q7, .inl (g.2 0, 60, .inl (fun _ => 0)))] H := hP
  refine W.widen (k := 1) (n := 60) (Nat.le_of_ble_eq_true rfl) (Nat.le_of_ble_eq_true rfl) ?_
  refine va_putF (D := g.1) (ci := 0) (v := .ref q7) (ty := .array .int) (C := RX1) (T := TX1) (N := 12) hx hb X.2.2.2.2.1 lay_X1 tyX1 tyX1_ok nmX1 X.2.2.2.1 X.2.2.2.2.2.2.1 hP.1 hP.2 hS 0 rfl rfl 0 (by decide) (X.2.2.2.2.1 _ (tg_2 (List.mem_of_getElem? (i := 47) rfl) rfl)) (fun _ h => h) rfl hin rfl (by decide +kernel) rfl rfl (Nat.le_of_ble_eq_true rfl) dX1_init_9 (fun H locs h1 h2 hS => ?_)
  have hP : WP g A [(h, .inr (0, [.ref q7, .null, .null, .null, .null, .null, .null, .null, .int 0, .int 0, .int 0, .int 0])), (q7, .inl (g.2 0, 60, .inl (fun _ => 0)))] H := ⟨h1, h2⟩
  refine lv_aload_n hx hb dX1_init_12 rfl (lv_at hl 0 rfl) ?_
  refine lv_sipush (v := 180) hx hb dX1_init_13 rfl ?_
  refine na_I (N := 180) X hA hP hS (by decide +kernel) (by decide +kernel) (Nat.le_of_ble_eq_true rfl) (Nat.le_of_ble_eq_true rfl) (Nat.le_of_ble_eq_true rfl) dX1_init_16 (fun q16 H hP hS => ?_)
  have hP : WP g A [(h, .inr (0, [.ref q7, .null, .null, .null, .null, .null, .null, .null, .int 0, .int 0, .int 0, .int 0])), (q7, .inl (g.2 0, 60, .inl (fun _ => 0))), (q16, .inl (g.2 0, 180, .inl (fun _ => 0)))] H := hP
  refine W.widen (k := 2) (n := 240) (Nat.le_of_ble_eq_true rfl) (Nat.le_of_ble_eq_true rfl) ?_
  refine va_putF (D := g.1) (ci := 0) (v := .ref q16) (ty := .array .int) (C := RX1) (T := TX1) (N := 12) hx hb X.2.2.2.2.1 lay_X1 tyX1 tyX1_ok nmX1 X.2.2.2.1 X.2.2.2.2.2.2.1 hP.1 hP.2 hS 0 rfl rfl 1 (by decide) (X.2.2.2.2.1 _ (tg_2 (List.mem_of_getElem? (i := 49) rfl) rfl)) (fun _ h => h) rfl hin rfl (by decide +kernel) rfl rfl (Nat.le_of_ble_eq_true rfl) dX1_init_18 (fun H locs h1 h2 hS => ?_)
  have hP : WP g A [(h, .inr (0, [.ref q7, .ref q16, .null, .null, .null, .null, .null, .null, .int 0, .int 0, .int 0, .int 0])), (q7, .inl (g.2 0, 60, .inl (fun _ => 0))), (q16, .inl (g.2 0, 180, .inl (fun _ => 0)))] H := ⟨h1, h2⟩
  refine lv_aload_n hx hb dX1_init_21 rfl (lv_at hl 0 rfl) ?_
  refine lv_sipush (v := 180) hx hb dX1_init_22 rfl ?_
  refine na_I (N := 180) X hA hP hS (by decide +kernel) (by decide +kernel) (Nat.le_of_ble_eq_true rfl) (Nat.le_of_ble_eq_true rfl) (Nat.le_of_ble_eq_true rfl) dX1_init_25 (fun q25 H hP hS => ?_)
  have hP : WP g A [(h, .inr (0, [.ref q7, .ref q16, .null, .null, .null, .null, .null, .null, .int 0, .int 0, .int 0, .int 0])), (q7, .inl (g.2 0, 60, .inl (fun _ => 0))), (q16, .inl (g.2 0, 180, .inl (fun _ => 0))), (q25, .inl (g.2 0, 180, .inl (fun _ => 0)))] H := hP
  refine W.widen (k := 3) (n := 420) (Nat.le_of_ble_eq_true rfl) (Nat.le_of_ble_eq_true rfl) ?_
  refine va_putF (D := g.1) (ci := 0) (v := .ref q25) (ty := .array .int) (C := RX1) (T := TX1) (N := 12) hx hb X.2.2.2.2.1 lay_X1 tyX1 tyX1_ok nmX1 X.2.2.2.1 X.2.2.2.2.2.2.1 hP.1 hP.2 hS 0 rfl rfl 2 (by decide) (X.2.2.2.2.1 _ (tg_2 (List.mem_of_getElem? (i := 51) rfl) rfl)) (fun _ h => h) rfl hin rfl (by decide +kernel) rfl rfl (Nat.le_of_ble_eq_true rfl) dX1_init_27 (fun H locs h1 h2 hS => ?_)
  have hP : WP g A [(h, .inr (0, [.ref q7, .ref q16, .ref q25, .null, .null, .null, .null, .null, .int 0, .int 0, .int 0, .int 0])), (q7, .inl (g.2 0, 60, .inl (fun _ => 0))), (q16, .inl (g.2 0, 180, .inl (fun _ => 0))), (q25, .inl (g.2 0, 180, .inl (fun _ => 0)))] H := ⟨h1, h2⟩
  refine lv_aload_n hx hb dX1_init_30 rfl (lv_at hl 0 rfl) ?_
  refine lv_bipush (v := 60) hx hb dX1_init_31 rfl ?_
  refine na_I (N := 60) X hA hP hS (by decide +kernel) (by decide +kernel) (Nat.le_of_ble_eq_true rfl) (Nat.le_of_ble_eq_true rfl) (Nat.le_of_ble_eq_true rfl) dX1_init_33 (fun q33 H hP hS => ?_)
  have hP : WP g A [(h, .inr (0, [.ref q7, .ref q16, .ref q25, .null, .null, .null, .null, .null, .int 0, .int 0, .int 0, .int 0])), (q7, .inl (g.2 0, 60, .inl (fun _ => 0))), (q16, .inl (g.2 0, 180, .inl (fun _ => 0))), (q25, .inl (g.2 0, 180, .inl (fun _ => 0))), (q33, .inl (g.2 0, 60, .inl (fun _ => 0)))] H := hP
  refine W.widen (k := 4) (n := 480) (Nat.le_of_ble_eq_true rfl) (Nat.le_of_ble_eq_true rfl) ?_
  refine va_putF (D := g.1) (ci := 0) (v := .ref q33) (ty := .array .int) (C := RX1) (T := TX1) (N := 12) hx hb X.2.2.2.2.1 lay_X1 tyX1 tyX1_ok nmX1 X.2.2.2.1 X.2.2.2.2.2.2.1 hP.1 hP.2 hS 0 rfl rfl 3 (by decide) (X.2.2.2.2.1 _ (tg_2 (List.mem_of_getElem? (i := 53) rfl) rfl)) (fun _ h => h) rfl hin rfl (by decide +kernel) rfl rfl (Nat.le_of_ble_eq_true rfl) dX1_init_35 (fun H locs h1 h2 hS => ?_)
  have hP : WP g A [(h, .inr (0, [.ref q7, .ref q16, .ref q25, .ref q33, .null, .null, .null, .null, .int 0, .int 0, .int 0, .int 0])), (q7, .inl (g.2 0, 60, .inl (fun _ => 0))), (q16, .inl (g.2 0, 180, .inl (fun _ => 0))), (q25, .inl (g.2 0, 180, .inl (fun _ => 0))), (q33, .inl (g.2 0, 60, .inl (fun _ => 0)))] H := ⟨h1, h2⟩
  refine lv_aload_n hx hb dX1_init_38 rfl (lv_at hl 0 rfl) ?_
  refine lv_bipush (v := 60) hx hb dX1_init_39 rfl ?_
  refine na_I (N := 60) X hA hP hS (by decide +kernel) (by decide +kernel) (Nat.le_of_ble_eq_true rfl) (Nat.le_of_ble_eq_true rfl) (Nat.le_of_ble_eq_true rfl) dX1_init_41 (fun q41 H hP hS => ?_)
  have hP : WP g A [(h, .inr (0, [.ref q7, .ref q16, .ref q25, .ref q33, .null, .null, .null, .null, .int 0, .int 0, .int 0, .int 0])), (q7, .inl (g.2 0, 60, .inl (fun _ => 0))), (q16, .inl (g.2 0, 180, .inl (fun _ => 0))), (q25, .inl (g.2 0, 180, .inl (fun _ => 0))), (q33, .inl (g.2 0, 60, .inl (fun _ => 0))), (q41, .inl (g.2 0, 60, .inl (fun _ => 0)))] H := hP
  refine W.widen (k := 5) (n := 540) (Nat.le_of_ble_eq_true rfl) (Nat.le_of_ble_eq_true rfl) ?_
  refine va_putF (D := g.1) (ci := 0) (v := .ref q41) (ty := .array .int) (C := RX1) (T := TX1) (N := 12) hx hb X.2.2.2.2.1 lay_X1 tyX1 tyX1_ok nmX1 X.2.2.2.1 X.2.2.2.2.2.2.1 hP.1 hP.2 hS 0 rfl rfl 4 (by decide) (X.2.2.2.2.1 _ (tg_2 (List.mem_of_getElem? (i := 55) rfl) rfl)) (fun _ h => h) rfl hin rfl (by decide +kernel) rfl rfl (Nat.le_of_ble_eq_true rfl) dX1_init_43 (fun H locs h1 h2 hS => ?_)
  have hP : WP g A [(h, .inr (0, [.ref q7, .ref q16, .ref q25, .ref q33, .ref q41, .null, .null, .null, .int 0, .int 0, .int 0, .int 0])), (q7, .inl (g.2 0, 60, .inl (fun _ => 0))), (q16, .inl (g.2 0, 180, .inl (fun _ => 0))), (q25, .inl (g.2 0, 180, .inl (fun _ => 0))), (q33, .inl (g.2 0, 60, .inl (fun _ => 0))), (q41, .inl (g.2 0, 60, .inl (fun _ => 0)))] H := ⟨h1, h2⟩
  refine lv_aload_n hx hb dX1_init_46 rfl (lv_at hl 0 rfl) ?_
  refine lv_bipush (v := 60) hx hb dX1_init_47 rfl ?_
  refine na_I (N := 60) X hA hP hS (by decide +kernel) (by decide +kernel) (Nat.le_of_ble_eq_true rfl) (Nat.le_of_ble_eq_true rfl) (Nat.le_of_ble_eq_true rfl) dX1_init_49 (fun q49 H hP hS => ?_)
  have hP : WP g A [(h, .inr (0, [.ref q7, .ref q16, .ref q25, .ref q33, .ref q41, .null, .null, .null, .int 0, .int 0, .int 0, .int 0])), (q7, .inl (g.2 0, 60, .inl (fun _ => 0))), (q16, .inl (g.2 0, 180, .inl (fun _ => 0))), (q25, .inl (g.2 0, 180, .inl (fun _ => 0))), (q33, .inl (g.2 0, 60, .inl (fun _ => 0))), (q41, .inl (g.2 0, 60, .inl (fun _ => 0))), (q49, .inl (g.2 0, 60, .inl (fun _ => 0)))] H := hP
  refine W.widen (k := 6) (n := 600) (Nat.le_of_ble_eq_true rfl) (Nat.le_of_ble_eq_true rfl) ?_
  refine va_putF (D := g.1) (ci := 0) (v := .ref q49) (ty := .array .int) (C := RX1) (T := TX1) (N := 12) hx hb X.2.2.2.2.1 lay_X1 tyX1 tyX1_ok nmX1 X.2.2.2.1 X.2.2.2.2.2.2.1 hP.1 hP.2 hS 0 rfl rfl 5 (by decide) (X.2.2.2.2.1 _ (tg_2 (List.mem_of_getElem? (i := 57) rfl) rfl)) (fun _ h => h) rfl hin rfl (by decide +kernel) rfl rfl (Nat.le_of_ble_eq_true rfl) dX1_init_51 (fun H locs h1 h2 hS => ?_)
  have hP : WP g A [(h, .inr (0, [.ref q7, .ref q16, .ref q25, .ref q33, .ref q41, .ref q49, .null, .null, .int 0, .int 0, .int 0, .int 0])), (q7, .inl (g.2 0, 60, .inl (fun _ => 0))), (q16, .inl (g.2 0, 180, .inl (fun _ => 0))), (q25, .inl (g.2 0, 180, .inl (fun _ => 0))), (q33, .inl (g.2 0, 60, .inl (fun _ => 0))), (q41, .inl (g.2 0, 60, .inl (fun _ => 0))), (q49, .inl (g.2 0, 60, .inl (fun _ => 0)))] H := ⟨h1, h2⟩
  refine lv_aload_n hx hb dX1_init_54 rfl (lv_at hl 0 rfl) ?_
  refine lv_bipush (v := 60) hx hb dX1_init_55 rfl ?_
  refine na_I (N := 60) X hA hP hS (by decide +kernel) (by decide +kernel) (Nat.le_of_ble_eq_true rfl) (Nat.le_of_ble_eq_true rfl) (Nat.le_of_ble_eq_true rfl) dX1_init_57 (fun q57 H hP hS => ?_)
  have hP : WP g A [(h, .inr (0, [.ref q7, .ref q16, .ref q25, .ref q33, .ref q41, .ref q49, .null, .null, .int 0, .int 0, .int 0, .int 0])), (q7, .inl (g.2 0, 60, .inl (fun _ => 0))), (q16, .inl (g.2 0, 180, .inl (fun _ => 0))), (q25, .inl (g.2 0, 180, .inl (fun _ => 0))), (q33, .inl (g.2 0, 60, .inl (fun _ => 0))), (q41, .inl (g.2 0, 60, .inl (fun _ => 0))), (q49, .inl (g.2 0, 60, .inl (fun _ => 0))), (q57, .inl (g.2 0, 60, .inl (fun _ => 0)))] H := hP
  refine W.widen (k := 7) (n := 660) (Nat.le_of_ble_eq_true rfl) (Nat.le_of_ble_eq_true rfl) ?_
  refine va_putF (D := g.1) (ci := 0) (v := .ref q57) (ty := .array .int) (C := RX1) (T := TX1) (N := 12) hx hb X.2.2.2.2.1 lay_X1 tyX1 tyX1_ok nmX1 X.2.2.2.1 X.2.2.2.2.2.2.1 hP.1 hP.2 hS 0 rfl rfl 6 (by decide) (X.2.2.2.2.1 _ (tg_2 (List.mem_of_getElem? (i := 58) rfl) rfl)) (fun _ h => h) rfl hin rfl (by decide +kernel) rfl rfl (Nat.le_of_ble_eq_true rfl) dX1_init_59 (fun H locs h1 h2 hS => ?_)
  have hP : WP g A [(h, .inr (0, [.ref q7, .ref q16, .ref q25, .ref q33, .ref q41, .ref q49, .ref q57, .null, .int 0, .int 0, .int 0, .int 0])), (q7, .inl (g.2 0, 60, .inl (fun _ => 0))), (q16, .inl (g.2 0, 180, .inl (fun _ => 0))), (q25, .inl (g.2 0, 180, .inl (fun _ => 0))), (q33, .inl (g.2 0, 60, .inl (fun _ => 0))), (q41, .inl (g.2 0, 60, .inl (fun _ => 0))), (q49, .inl (g.2 0, 60, .inl (fun _ => 0))), (q57, .inl (g.2 0, 60, .inl (fun _ => 0)))] H := ⟨h1, h2⟩
  refine lv_aload_n hx hb dX1_init_62 rfl (lv_at hl 0 rfl) ?_
  refine lv_bipush (v := 60) hx hb dX1_init_63 rfl ?_
  refine na_I (N := 60) X hA hP hS (by decide +kernel) (by decide +kernel) (Nat.le_of_ble_eq_true rfl) (Nat.le_of_ble_eq_true rfl) (Nat.le_of_ble_eq_true rfl) dX1_init_65 (fun q65 H hP hS => ?_)
  have hP : WP g A [(h, .inr (0, [.ref q7, .ref q16, .ref q25, .ref q33, .ref q41, .ref q49, .ref q57, .null, .int 0, .int 0, .int 0, .int 0])), (q7, .inl (g.2 0, 60, .inl (fun _ => 0))), (q16, .inl (g.2 0, 180, .inl (fun _ => 0))), (q25, .inl (g.2 0, 180, .inl (fun _ => 0))), (q33, .inl (g.2 0, 60, .inl (fun _ => 0))), (q41, .inl (g.2 0, 60, .inl (fun _ => 0))), (q49, .inl (g.2 0, 60, .inl (fun _ => 0))), (q57, .inl (g.2 0, 60, .inl (fun _ => 0))), (q65, .inl (g.2 0, 60, .inl (fun _ => 0)))] H := hP
  refine W.widen (k := 8) (n := 720) (Nat.le_of_ble_eq_true rfl) (Nat.le_of_ble_eq_true rfl) ?_
  refine va_putF (D := g.1) (ci := 0) (v := .ref q65) (ty := .array .int) (C := RX1) (T := TX1) (N := 12) hx hb X.2.2.2.2.1 lay_X1 tyX1 tyX1_ok nmX1 X.2.2.2.1 X.2.2.2.2.2.2.1 hP.1 hP.2 hS 0 rfl rfl 7 (by decide) (X.2.2.2.2.1 _ (tg_2 (List.mem_of_getElem? (i := 60) rfl) rfl)) (fun _ h => h) rfl hin rfl (by decide +kernel) rfl rfl (Nat.le_of_ble_eq_true rfl) dX1_init_67 (fun H locs h1 h2 hS => ?_)
  have hP : WP g A [(h, .inr (0, [.ref q7, .ref q16, .ref q25, .ref q33, .ref q41, .ref q49, .ref q57, .ref q65, .int 0, .int 0, .int 0, .int 0])), (q7, .inl (g.2 0, 60, .inl (fun _ => 0))), (q16, .inl (g.2 0, 180, .inl (fun _ => 0))), (q25, .inl (g.2 0, 180, .inl (fun _ => 0))), (q33, .inl (g.2 0, 60, .inl (fun _ => 0))), (q41, .inl (g.2 0, 60, .inl (fun _ => 0))), (q49, .inl (g.2 0, 60, .inl (fun _ => 0))), (q57, .inl (g.2 0, 60, .inl (fun _ => 0))), (q65, .inl (g.2 0, 60, .inl (fun _ => 0)))] H := ⟨h1, h2⟩
  exact ret (fun k => ([h, q7, q16, q25, q33, q41, q49, q57, q65] : List Nat).getD k 0) hP hS dX1_init_70
