abbrev rm_X5_passDigits : Room := { frames := 2, cells := 0, slots := 0, locals := 40 }
set_option maxRecDepth 100000 in
set_option maxHeartbeats 4000000 in
theorem c_X5_passDigits {g : gT} {l : Launch} {A : Nat → Prop} {a0 a1 a2 : Nat} {s_at : Int32} {t_length : Int32} {t_bytes : Nat → Int32}  {o : Int32} (h : f_X5_passDigits  s_at t_length t_bytes = some o) : Std g l yX5_passDigits (.code yX5_passDigits cX5_passDigits 1 none :: gw) rm_X5_passDigits A [.ref a0] (wScan g a0 a1 a2 s_at t_length t_bytes) (wScan g a0 a1 a2 o t_length t_bytes) none := by
  refine std_v (own := RX5) (by decide +kernel) rfl (Nat.le_of_ble_eq_true rfl) ?_
  intro p e s m args below meth c Q X ret H locs hP hS ls hl
  have hx := X.1
  have hb := X.2.1
  have hl : lv_has ls 1 [(0, .ref a0)] := hl
  have ret : ∀ {H : Heap} {locs : List Loc} {pc : Nat} {ls : Array Slot} {s_at : Int32}, some (s_at) = some o → WP g A (wScan g a0 a1 a2 s_at t_length t_bytes) H → va_S A s.heap H locs → decode cX5_passDigits pc = .ok (.return_, 1) → W p l e rm_X5_passDigits s m args below meth c H locs 0 0 Q (F0 m pc ls []) := by
    intro H locs pc ls s_at h hP hS hd
    cases h
    exact ret hP hS hd
  have l0 : ∀ (n : Nat), ∀ (s_at : Int32) (H : Heap) (locs : List Loc) (ls : Array Slot), f_X5_passDigits_l0  t_length t_bytes  n s_at = some o → WP g A (wScan g a0 a1 a2 s_at t_length t_bytes) H → va_S A s.heap H locs → lv_has ls 1 [(0, .ref a0)] → W p l e rm_X5_passDigits s m args below meth c H locs 0 0 Q (F0 m 0 ls []) := by
    intro  n
    induction n with
    | zero =>
      intro s_at H locs ls h
      exact nz_of h
    | succ n ih =>
      intro s_at H locs ls h hP hS hl
      rw [f_X5_passDigits_l0] at h
      refine lv_aload_n hx hb dX5_passDigits_0 rfl (lv_at hl 0 rfl) ?_
      refine gf_X5_13_Scan_0 X hP dX5_passDigits_1 ?_
      refine lv_aload_n hx hb dX5_passDigits_4 rfl (lv_at hl 0 rfl) ?_
      refine gf_X5_7_Scan_0 X hP dX5_passDigits_5 ?_
      refine gf_X5_17_Scan_1 X hP dX5_passDigits_8 ?_
      refine lv_icmp_ge (tgt := 34) hx hb dX5_passDigits_11 rfl (fun c11 => ?_) (fun c11 => ?_)
      · have h := br_p c11 h
        exact ret h hP hS dX5_passDigits_34
      · have h := br_n c11 h
        refine lv_aload_n hx hb dX5_passDigits_14 rfl (lv_at hl 0 rfl) ?_
        obtain ⟨o1, hco1, h⟩ := bd_of h
        refine kV (rest := []) X dX5_passDigits_15 wd_3_16 mw_X5_isOnDigit wd_3_18 wp_2_4 hP (k0 := 0) rfl rfl rfl hS (fun _ z => z) (c_X5_isOnDigit hco1) rfl hl.1 rfl (Nat.le_of_ble_eq_true rfl) rfl rfl ⟨Nat.le_of_ble_eq_true rfl, Nat.le_of_ble_eq_true rfl⟩ (fun H locs hP _ _ hS => ?_)
        refine W.eq (g2 := F0 m 18 ls [.int (bI o1)]) rfl ?_
        refine rb_eq (tgt := 34) hx hb dX5_passDigits_18 rfl (fun c18 => ?_) (fun c18 => ?_)
        · have h := br_n c18 h
          exact ret h hP hS dX5_passDigits_34
        · have h := br_p c18 h
          refine lv_aload_n hx hb dX5_passDigits_21 rfl (lv_at hl 0 rfl) ?_
          refine lv_dup hx hb dX5_passDigits_22 rfl ?_
          refine gf_X5_13_Scan_0 X hP dX5_passDigits_23 ?_
          refine lv_iconst (v := 1) hx hb dX5_passDigits_26 rfl ?_
          refine lv_iadd hx hb dX5_passDigits_27 ?_
          refine lv_topi (fun v2 ev2 => ?_)
          have h := lt_at ev2 h
          refine pf_X5_13_Scan_0 (v0 := v2) X hP hS dX5_passDigits_28 (fun H locs hP hS => ?_)
          refine lv_goto (tgt := 0) hx hb dX5_passDigits_31 rfl ?_
          exact ih v2 _ _ _ h hP hS (lv_sub hl [0] rfl)
  unfold f_X5_passDigits at h
  exact l0  FU s_at _ _ _ h hP hS (lv_sub hl [0] rfl)
abbrev rm_X5_number : Room := { frames := 0, cells := 0, slots := 0, locals := 0 }
set_option maxRecDepth 100000 in
set_option maxHeartbeats 4000000 in
theorem c_X5_number {g : gT} {l : Launch} {A : Nat → Prop} {a0 a1 a2 : Nat} {s_at : Int32} {t_length : Int32} {t_bytes : Nat → Int32} {p0 : Int32} {o : Int32} (h : f_X5_number p0 s_at t_length t_bytes = some o) : Std g l yX5_number (.code yX5_number cX5_number 4 (some .int) :: gw) rm_X5_number A [.ref a0, .int p0] (wScan g a0 a1 a2 s_at t_length t_bytes) (wScan g a0 a1 a2 s_at t_length t_bytes) (some (.int o)) := by
  refine std_i (own := RX5) (by decide +kernel) rfl (Nat.le_of_ble_eq_true rfl) ?_
  intro p e s m args below meth c Q X ret H locs hP hS ls hl
  have hx := X.1
  have hb := X.2.1
  have hl : lv_has ls 4 [(0, .ref a0), (1, .int p0)] := hl
  have ret : ∀ {H : Heap} {locs : List Loc} {pc : Nat} {ls : Array Slot} {v : Int32} , some (v) = some o → WP g A (wScan g a0 a1 a2 s_at t_length t_bytes) H → va_S A s.heap H locs → decode cX5_number pc = .ok (.ireturn, 1) → W p l e rm_X5_number s m args below meth c H locs 0 0 Q (F0 m pc ls [.int v]) := by
    intro H locs pc ls v h hP hS hd
    cases h
    exact ret hP hS hd
  have b51 : ∀ (x2 : Int32) (H : Heap) (locs : List Loc) (ls : Array Slot), f_X5_number_b51  s_at t_length t_bytes  x2 = some o → WP g A (wScan g a0 a1 a2 s_at t_length t_bytes) H → va_S A s.heap H locs → lv_has ls 4 [(2, .int x2)] → W p l e rm_X5_number s m args below meth c H locs 0 0 Q (F0 m 51 ls []) := by
    intro  x2 H locs ls h hP hS hl
    unfold f_X5_number_b51 at h
    refine lv_iload_n hx hb dX5_number_51 rfl (lv_at hl 0 rfl) ?_
    exact ret h hP hS dX5_number_52
  have l4 : ∀ (n : Nat), ∀ (x2 : Int32) (x3 : Int32) (H : Heap) (locs : List Loc) (ls : Array Slot), f_X5_number_l4  s_at t_length t_bytes  n x2 x3 = some o → WP g A (wScan g a0 a1 a2 s_at t_length t_bytes) H → va_S A s.heap H locs → lv_has ls 4 [(0, .ref a0), (2, .int x2), (3, .int x3)] → W p l e rm_X5_number s m args below meth c H locs 0 0 Q (F0 m 4 ls []) := by
    intro  n
    induction n with
    | zero =>
      intro x2 x3 H locs ls h
      exact nz_of h
    | succ n ih =>
      intro x2 x3 H locs ls h hP hS hl
      rw [f_X5_number_l4] at h
      refine lv_iload_n hx hb dX5_number_4 rfl (lv_at hl 2 rfl) ?_
      refine lv_if_lt (tgt := 51) hx hb dX5_number_5 rfl (fun c5 => ?_) (fun c5 => ?_)
      · have h := br_p c5 h
        exact b51   x2 _ _ _ h hP hS (lv_sub hl [1] rfl)
      · have h := br_n c5 h
        refine lv_iload_n hx hb dX5_number_8 rfl (lv_at hl 2 rfl) ?_
        refine lv_aload_n hx hb dX5_number_9 rfl (lv_at hl 0 rfl) ?_
        refine gf_X5_13_Scan_0 X hP dX5_number_10 ?_
        refine lv_icmp_ge (tgt := 51) hx hb dX5_number_13 rfl (fun c13 => ?_) (fun c13 => ?_)
        · have h := br_p c13 h
          exact b51   x2 _ _ _ h hP hS (lv_sub hl [1] rfl)
        · have h := br_n c13 h
          refine lv_iload_n hx hb dX5_number_16 rfl (lv_at hl 2 rfl) ?_
          refine lv_aload_n hx hb dX5_number_17 rfl (lv_at hl 0 rfl) ?_
          refine gf_X5_7_Scan_0 X hP dX5_number_18 ?_
          refine gf_X5_17_Scan_1 X hP dX5_number_21 ?_
          refine lv_icmp_ge (tgt := 51) hx hb dX5_number_24 rfl (fun c24 => ?_) (fun c24 => ?_)
          · have h := br_p c24 h
            exact b51   x2 _ _ _ h hP hS (lv_sub hl [1] rfl)
          · have h := br_n c24 h
            refine lv_bipush (v := 10) hx hb dX5_number_27 rfl ?_
            refine lv_iload_n hx hb dX5_number_29 rfl (lv_at hl 1 rfl) ?_
            refine lv_imul hx hb dX5_number_30 ?_
            refine lv_aload_n hx hb dX5_number_31 rfl (lv_at hl 0 rfl) ?_
            refine gf_X5_7_Scan_0 X hP dX5_number_32 ?_
            refine gf_X5_22_Scan_1 X hP dX5_number_35 ?_
            refine lv_iload_n hx hb dX5_number_38 rfl (lv_at hl 2 rfl) ?_
            obtain ⟨hi39, h⟩ := gv_of h
            refine al_Scan_2 X hP hi39 dX5_number_39 ?_
            refine lv_iadd hx hb dX5_number_40 ?_
            refine lv_bipush (v := 48) hx hb dX5_number_41 rfl ?_
            refine lv_isub hx hb dX5_number_43 ?_
            refine lv_topi (fun v1 ev1 => ?_)
            have h := lt_at ev1 h
            refine lv_istore_n (lv' := [(2, .int v1), (0, .ref a0), (3, .int x3)]) hx hb dX5_number_44 rfl hl (by decide) rfl (fun ls hl => ?_)
            obtain ⟨v2, ev2⟩ : ∃ z : Int32, z = (x3 + 1) := ⟨_, rfl⟩
            have h := lt_at ev2 h
            refine lv_iinc (v := v2) (lv' := [(3, .int v2), (2, .int v1), (0, .ref a0)]) hx hb dX5_number_45 hl (k := 2) rfl (by rw [ev2]; rfl) (by decide) rfl (fun ls hl => ?_)
            refine lv_goto (tgt := 4) hx hb dX5_number_48 rfl ?_
            exact ih v1 v2 _ _ _ h hP hS (lv_sub hl [2, 1, 0] rfl)
  unfold f_X5_number at h
  refine lv_iconst (v := 0) hx hb dX5_number_0 rfl ?_
  refine lv_istore_n (lv' := [(2, .int 0), (0, .ref a0), (1, .int p0)]) hx hb dX5_number_1 rfl hl (by decide) rfl (fun ls hl => ?_)
  refine lv_iload_n hx hb dX5_number_2 rfl (lv_at hl 2 rfl) ?_
  refine lv_istore_n (lv' := [(3, .int p0), (2, .int 0), (0, .ref a0), (1, .int p0)]) hx hb dX5_number_3 rfl hl (by decide) rfl (fun ls hl => ?_)
  exact l4  FU (0 : Int32) p0 _ _ _ h hP hS (lv_sub hl [2, 1, 0] rfl)
abbrev rm_X3_readNumber : Room := { frames := 3, cells := 0, slots := 0, locals := 60 }
set_option maxRecDepth 100000 in
set_option maxHeartbeats 4000000 in
theorem c_X3_readNumber {g : gT} {l : Launch} {A : Nat → Prop} {a0 a1 a2 a3 a4 a5 a6 : Nat} {o_lines : Int32} {s_at : Int32} {t_length : Int32} {t_bytes : Nat → Int32} {o_kinds : Nat → Int32} {o_operands : Nat → Int32} {o_ties : Nat → Int32} {p0 : Int32} {o : Int32 × Int32 × (Nat → Int32)} (h : f_X3_readNumber p0 s_at t_length t_bytes o_operands = some o) : Std g l yX3_readNumber (.code yX3_readNumber cX3_readNumber 6 (some .int) :: gw) rm_X3_readNumber A [.ref a0, .int p0] (wOText g a0 a1 a2 a3 a4 a5 a6 o_lines s_at t_length t_bytes o_kinds o_operands o_ties) (wOText g a0 a1 a2 a3 a4 a5 a6 o_lines o.2.1 t_length t_bytes o_kinds o.2.2 o_ties) (some (.int o.1)) := by
  refine std_i (own := RX3) (by decide +kernel) rfl (Nat.le_of_ble_eq_true rfl) ?_
  intro p e s m args below meth c Q X ret H locs hP hS ls hl
  have hx := X.1
  have hb := X.2.1
  have hl : lv_has ls 6 [(0, .ref a0), (1, .int p0)] := hl
  have ret : ∀ {H : Heap} {locs : List Loc} {pc : Nat} {ls : Array Slot} {v : Int32} {s_at : Int32} {o_operands : Nat → Int32}, some (v, s_at, o_operands) = some o → WP g A (wOText g a0 a1 a2 a3 a4 a5 a6 o_lines s_at t_length t_bytes o_kinds o_operands o_ties) H → va_S A s.heap H locs → decode cX3_readNumber pc = .ok (.ireturn, 1) → W p l e rm_X3_readNumber s m args below meth c H locs 0 0 Q (F0 m pc ls [.int v]) := by
    intro H locs pc ls v s_at o_operands h hP hS hd
    cases h
    exact ret hP hS hd
  have b88 : ∀ (x2 : Int32) (s_at : Int32) (o_operands : Nat → Int32) (H : Heap) (locs : List Loc) (ls : Array Slot), f_X3_readNumber_b88  t_length t_bytes  x2 s_at o_operands = some o → WP g A (wOText g a0 a1 a2 a3 a4 a5 a6 o_lines s_at t_length t_bytes o_kinds o_operands o_ties) H → va_S A s.heap H locs → lv_has ls 6 [(2, .int x2)] → W p l e rm_X3_readNumber s m args below meth c H locs 0 0 Q (F0 m 88 ls []) := by
    intro  x2 s_at o_operands H locs ls h hP hS hl
    unfold f_X3_readNumber_b88 at h
    refine lv_iload_n hx hb dX3_readNumber_88 rfl (lv_at hl 0 rfl) ?_
    exact ret h hP hS dX3_readNumber_89
  have b121 : ∀ (t1 : Int32) (t2 : Int32) (s_at : Int32) (o_operands : Nat → Int32) (H : Heap) (locs : List Loc) (ls : Array Slot), f_X3_readNumber_b121  t_length t_bytes  t1 t2 s_at o_operands = some o → WP g A (wOText g a0 a1 a2 a3 a4 a5 a6 o_lines s_at t_length t_bytes o_kinds o_operands o_ties) H → va_S A s.heap H locs → lv_has ls 6 [] → W p l e rm_X3_readNumber s m args below meth c H locs 0 0 Q (F0 m 121 ls [.int t2, .int t1, .ref a5]) := by
    intro  t1 t2 s_at o_operands H locs ls h hP hS hl
    unfold f_X3_readNumber_b121 at h
    obtain ⟨hi121, h⟩ := gv_of h
    refine as_OText_5 (v0 := t2) X hP hS hi121 dX3_readNumber_121 (fun H locs hP hS => ?_)
    refine lv_iconst (v := (-1)) hx hb dX3_readNumber_122 rfl ?_
    exact ret h hP hS dX3_readNumber_123
  unfold f_X3_readNumber at h
  refine lv_aload_n hx hb dX3_readNumber_0 rfl (lv_at hl 0 rfl) ?_
  refine gf_X3_26_OText_0 X hP dX3_readNumber_1 ?_
  refine gf_X3_30_OText_1 X hP dX3_readNumber_4 ?_
  refine lv_istore_n (lv' := [(2, .int s_at), (0, .ref a0), (1, .int p0)]) hx hb dX3_readNumber_7 rfl hl (by decide) rfl (fun ls hl => ?_)
  refine lv_aload_n hx hb dX3_readNumber_8 rfl (lv_at hl 1 rfl) ?_
  refine gf_X3_26_OText_0 X hP dX3_readNumber_9 ?_
  obtain ⟨o1, hco1, h⟩ := bd_of h
  obtain ⟨hF, hFA⟩ := fo_OText_Scan_1 hP
  refine kVN (rest := []) X dX3_readNumber_12 wd_3_46 mw_X5_here wd_2_168 wp_1_12 hF (k0 := 0) rfl rfl rfl hS hFA (c_X5_here hco1) rfl hl.1 rfl (Nat.le_of_ble_eq_true rfl) rfl rfl ⟨Nat.le_of_ble_eq_true rfl, Nat.le_of_ble_eq_true rfl⟩ (fun H locs hF1 _ hk hS => ?_)
  have hP := un_OText_Scan_1 hP hk hF1
  refine W.eq (g2 := F0 m 15 ls [.int o1]) rfl ?_
  refine lv_bipush (v := 45) hx hb dX3_readNumber_15 rfl ?_
  refine jx1 h (P := fun (v2 : Bool) => ∀ ls : Array Slot, lv_has ls 6 [(0, .ref a0), (1, .int p0), (2, .int s_at)] → W p l e rm_X3_readNumber s m args below meth c H locs 0 0 Q (F0 m 25 ls [.int (bI v2)])) ?_ ?_
  · intro v2 h ls hl
    refine lv_istore_n (lv' := [(3, .int (bI v2)), (0, .ref a0), (1, .int p0), (2, .int s_at)]) hx hb dX3_readNumber_25 rfl hl (by decide) rfl (fun ls hl => ?_)
    refine lv_aload_n hx hb dX3_readNumber_26 rfl (lv_at hl 1 rfl) ?_
    refine gf_X3_26_OText_0 X hP dX3_readNumber_27 ?_
    refine lv_dup hx hb dX3_readNumber_30 rfl ?_
    refine gf_X3_30_OText_1 X hP dX3_readNumber_31 ?_
    refine lv_iload_n hx hb dX3_readNumber_34 rfl (lv_at hl 0 rfl) ?_
    refine jx1 h (P := fun (v3 : Bool) => ∀ ls : Array Slot, lv_has ls 6 [(0, .ref a0), (1, .int p0), (2, .int s_at), (3, .int (bI v2))] → W p l e rm_X3_readNumber s m args below meth c H locs 0 0 Q (F0 m 43 ls [.int (bI v3), .int s_at, .ref a1])) ?_ ?_
    · intro v3 h ls hl
      refine lv_iadd hx hb dX3_readNumber_43 ?_
      refine lv_topi (fun v4 ev4 => ?_)
      have h := lt_at ev4 h
      refine pf_X3_30_OText_1 (v0 := v4) X hP hS dX3_readNumber_44 (fun H locs hP hS => ?_)
      refine lv_aload_n hx hb dX3_readNumber_47 rfl (lv_at hl 0 rfl) ?_
      refine gf_X3_26_OText_0 X hP dX3_readNumber_48 ?_
      refine gf_X3_30_OText_1 X hP dX3_readNumber_51 ?_
      refine lv_istore (lv' := [(4, .int v4), (0, .ref a0), (1, .int p0), (2, .int s_at), (3, .int (bI v2))]) hx hb dX3_readNumber_54 hl (by decide) rfl (fun ls hl => ?_)
      refine lv_aload_n hx hb dX3_readNumber_56 rfl (lv_at hl 1 rfl) ?_
      refine gf_X3_26_OText_0 X hP dX3_readNumber_57 ?_
      obtain ⟨o5, hco5, h⟩ := bd_of h
      obtain ⟨hF, hFA⟩ := fo_OText_Scan_1 hP
      refine kVN (rest := []) X dX3_readNumber_60 wd_3_51 mw_X5_passDigits wd_3_14 wp_2_3 hF (k0 := 0) rfl rfl rfl hS hFA (c_X5_passDigits hco5) rfl hl.1 rfl (Nat.le_of_ble_eq_true rfl) rfl rfl ⟨Nat.le_of_ble_eq_true rfl, Nat.le_of_ble_eq_true rfl⟩ (fun H locs hF1 _ hk hS => ?_)
      have hP := un_OText_Scan_1 hP hk hF1
      refine W.eq (g2 := F0 m 63 ls []) rfl ?_
      refine lv_aload_n hx hb dX3_readNumber_63 rfl (lv_at hl 1 rfl) ?_
      refine gf_X3_26_OText_0 X hP dX3_readNumber_64 ?_
      refine gf_X3_30_OText_1 X hP dX3_readNumber_67 ?_
      refine lv_iload hx hb dX3_readNumber_70 (lv_at hl 0 rfl) ?_
      refine lv_isub hx hb dX3_readNumber_72 ?_
      refine lv_topi (fun v6 ev6 => ?_)
      have h := lt_at ev6 h
      refine lv_istore (lv' := [(5, .int v6), (4, .int v4), (0, .ref a0), (1, .int p0), (2, .int s_at), (3, .int (bI v2))]) hx hb dX3_readNumber_73 hl (by decide) rfl (fun ls hl => ?_)
      refine lv_iload hx hb dX3_readNumber_75 (lv_at hl 0 rfl) ?_
      refine lv_iconst (v := 1) hx hb dX3_readNumber_77 rfl ?_
      refine lv_icmp_lt (tgt := 88) hx hb dX3_readNumber_78 rfl (fun c78 => ?_) (fun c78 => ?_)
      · have h := br_p c78 h
        exact b88   s_at o5 o_operands _ _ _ h hP hS (lv_sub hl [4] rfl)
      · have h := br_n c78 h
        refine lv_iload hx hb dX3_readNumber_81 (lv_at hl 0 rfl) ?_
        refine lv_bipush (v := 9) hx hb dX3_readNumber_83 rfl ?_
        refine lv_icmp_le (tgt := 90) hx hb dX3_readNumber_85 rfl (fun c85 => ?_) (fun c85 => ?_)
        · have h := br_p c85 h
          refine lv_aload_n hx hb dX3_readNumber_90 rfl (lv_at hl 2 rfl) ?_
          refine gf_X3_15_OText_0 X hP dX3_readNumber_91 ?_
          refine lv_iload_n hx hb dX3_readNumber_94 rfl (lv_at hl 3 rfl) ?_
          refine lv_iload_n hx hb dX3_readNumber_95 rfl (lv_at hl 5 rfl) ?_
          refine rb_eq (tgt := 112) hx hb dX3_readNumber_96 rfl (fun c96 => ?_) (fun c96 => ?_)
          · have h := br_n c96 h
            refine lv_aload_n hx hb dX3_readNumber_112 rfl (lv_at hl 2 rfl) ?_
            refine gf_X3_26_OText_0 X hP dX3_readNumber_113 ?_
            refine lv_iload hx hb dX3_readNumber_116 (lv_at hl 1 rfl) ?_
            obtain ⟨o7, hco7, h⟩ := bd_of h
            obtain ⟨hF, hFA⟩ := fo_OText_Scan_1 hP
            refine kVN (rest := [.int p0, .ref a5]) X dX3_readNumber_118 wd_3_52 mw_X5_number wd_3_22 wp_2_5 hF (k0 := 0) rfl rfl rfl hS hFA (c_X5_number hco7) rfl hl.1 rfl (Nat.le_of_ble_eq_true rfl) rfl rfl ⟨Nat.le_of_ble_eq_true rfl, Nat.le_of_ble_eq_true rfl⟩ (fun H locs hF1 _ hk hS => ?_)
            have hP := un_OText_Scan_1 hP hk hF1
            refine W.eq (g2 := F0 m 121 ls [.int o7, .int p0, .ref a5]) rfl ?_
            exact b121   p0 o7 o5 o_operands _ _ _ h hP hS (lv_sub hl [] rfl)
          · have h := br_p c96 h
            refine lv_aload_n hx hb dX3_readNumber_99 rfl (lv_at hl 2 rfl) ?_
            refine gf_X3_26_OText_0 X hP dX3_readNumber_100 ?_
            refine lv_iload hx hb dX3_readNumber_103 (lv_at hl 1 rfl) ?_
            obtain ⟨o8, hco8, h⟩ := bd_of h
            obtain ⟨hF, hFA⟩ := fo_OText_Scan_1 hP
            refine kVN (rest := [.int p0, .ref a5]) X dX3_readNumber_105 wd_3_52 mw_X5_number wd_3_22 wp_2_5 hF (k0 := 0) rfl rfl rfl hS hFA (c_X5_number hco8) rfl hl.1 rfl (Nat.le_of_ble_eq_true rfl) rfl rfl ⟨Nat.le_of_ble_eq_true rfl, Nat.le_of_ble_eq_true rfl⟩ (fun H locs hF1 _ hk hS => ?_)
            have hP := un_OText_Scan_1 hP hk hF1
            refine W.eq (g2 := F0 m 108 ls [.int o8, .int p0, .ref a5]) rfl ?_
            refine lv_ineg hx hb dX3_readNumber_108 ?_
            refine lv_goto (tgt := 121) hx hb dX3_readNumber_109 rfl ?_
            exact b121   p0 (-o8) o5 o_operands _ _ _ h hP hS (lv_sub hl [] rfl)
        · have h := br_n c85 h
          exact b88   s_at o5 o_operands _ _ _ h hP hS (lv_sub hl [4] rfl)
    · intro J h
      refine rb_eq (tgt := 42) hx hb dX3_readNumber_35 rfl (fun c35 => ?_) (fun c35 => ?_)
      · refine lv_iconst (v := 0) hx hb dX3_readNumber_42 rfl ?_
        exact J _ (lt_in c35 h) ls (lv_sub hl [1, 2, 3, 0] rfl)
      · refine lv_iconst (v := 1) hx hb dX3_readNumber_38 rfl ?_
        refine lv_goto (tgt := 43) hx hb dX3_readNumber_39 rfl ?_
        exact J _ (lt_ip c35 h) ls (lv_sub hl [1, 2, 3, 0] rfl)
  · intro J h
    refine lv_icmp_ne (tgt := 24) hx hb dX3_readNumber_17 rfl (fun c17 => ?_) (fun c17 => ?_)
    · refine lv_iconst (v := 0) hx hb dX3_readNumber_24 rfl ?_
      exact J _ (lt_in c17 h) ls (lv_sub hl [1, 2, 0] rfl)
    · refine lv_iconst (v := 1) hx hb dX3_readNumber_20 rfl ?_
      refine lv_goto (tgt := 25) hx hb dX3_readNumber_21 rfl ?_
      exact J _ (lt_ip c17 h) ls (lv_sub hl [1, 2, 0] rfl)
abbrev rm_X3_readTie : Room := { frames := 3, cells := 0, slots := 0, locals := 60 }
set_option maxRecDepth 100000 in
set_option maxHeartbeats 4000000 in
theorem c_X3_readTie {g : gT} {l : Launch} {A : Nat → Prop} {a0 a1 a2 a3 a4 a5 a6 : Nat} {o_lines : Int32} {s_at : Int32} {t_length : Int32} {t_bytes : Nat → Int32} {o_kinds : Nat → Int32} {o_operands : Nat → Int32} {o_ties : Nat → Int32} {p0 : Int32} {o : Int32 × Int32 × (Nat → Int32)} (h : f_X3_readTie p0 o_lines s_at t_length t_bytes o_ties = some o) : Std g l yX3_readTie (.code yX3_readTie cX3_readTie 6 (some .int) :: gw) rm_X3_readTie A [.ref a0, .int p0] (wOText g a0 a1 a2 a3 a4 a5 a6 o_lines s_at t_length t_bytes o_kinds o_operands o_ties) (wOText g a0 a1 a2 a3 a4 a5 a6 o_lines o.2.1 t_length t_bytes o_kinds o_operands o.2.2) (some (.int o.1)) := by
  refine std_i (own := RX3) (by decide +kernel) rfl (Nat.le_of_ble_eq_true rfl) ?_
  intro p e s m args below meth c Q X ret H locs hP hS ls hl
  have hx := X.1
  have hb := X.2.1
  have hl : lv_has ls 6 [(0, .ref a0), (1, .int p0)] := hl
  have ret : ∀ {H : Heap} {locs : List Loc} {pc : Nat} {ls : Array Slot} {v : Int32} {s_at : Int32} {o_ties : Nat → Int32}, some (v, s_at, o_ties) = some o → WP g A (wOText g a0 a1 a2 a3 a4 a5 a6 o_lines s_at t_length t_bytes o_kinds o_operands o_ties) H → va_S A s.heap H locs → decode cX3_readTie pc = .ok (.ireturn, 1) → W p l e rm_X3_readTie s m args below meth c H locs 0 0 Q (F0 m pc ls [.int v]) := by
    intro H locs pc ls v s_at o_ties h hP hS hd
    cases h
    exact ret hP hS hd
  have b74 : ∀ (x2 : Int32) (s_at : Int32) (o_ties : Nat → Int32) (H : Heap) (locs : List Loc) (ls : Array Slot), f_X3_readTie_b74  o_lines t_length t_bytes  x2 s_at o_ties = some o → WP g A (wOText g a0 a1 a2 a3 a4 a5 a6 o_lines s_at t_length t_bytes o_kinds o_operands o_ties) H → va_S A s.heap H locs → lv_has ls 6 [(2, .int x2)] → W p l e rm_X3_readTie s m args below meth c H locs 0 0 Q (F0 m 74 ls []) := by
    intro  x2 s_at o_ties H locs ls h hP hS hl
    unfold f_X3_readTie_b74 at h
    refine lv_iload_n hx hb dX3_readTie_74 rfl (lv_at hl 0 rfl) ?_
    exact ret h hP hS dX3_readTie_75
  unfold f_X3_readTie at h
  refine lv_aload_n hx hb dX3_readTie_0 rfl (lv_at hl 0 rfl) ?_
  refine gf_X3_26_OText_0 X hP dX3_readTie_1 ?_
  refine gf_X3_30_OText_1 X hP dX3_readTie_4 ?_
  refine lv_istore_n (lv' := [(2, .int s_at), (0, .ref a0), (1, .int p0)]) hx hb dX3_readTie_7 rfl hl (by decide) rfl (fun ls hl => ?_)
  refine lv_aload_n hx hb dX3_readTie_8 rfl (lv_at hl 1 rfl) ?_
  refine gf_X3_26_OText_0 X hP dX3_readTie_9 ?_
  refine lv_dup hx hb dX3_readTie_12 rfl ?_
  refine gf_X3_30_OText_1 X hP dX3_readTie_13 ?_
  refine lv_iconst (v := 1) hx hb dX3_readTie_16 rfl ?_
  refine lv_iadd hx hb dX3_readTie_17 ?_
  refine lv_topi (fun v1 ev1 => ?_)
  have h := lt_at ev1 h
  refine pf_X3_30_OText_1 (v0 := v1) X hP hS dX3_readTie_18 (fun H locs hP hS => ?_)
  refine lv_aload_n hx hb dX3_readTie_21 rfl (lv_at hl 1 rfl) ?_
  refine gf_X3_26_OText_0 X hP dX3_readTie_22 ?_
  refine gf_X3_30_OText_1 X hP dX3_readTie_25 ?_
  refine lv_istore_n (lv' := [(3, .int v1), (2, .int s_at), (0, .ref a0), (1, .int p0)]) hx hb dX3_readTie_28 rfl hl (by decide) rfl (fun ls hl => ?_)
  refine lv_aload_n hx hb dX3_readTie_29 rfl (lv_at hl 2 rfl) ?_
  refine gf_X3_26_OText_0 X hP dX3_readTie_30 ?_
  obtain ⟨o2, hco2, h⟩ := bd_of h
  obtain ⟨hF, hFA⟩ := fo_OText_Scan_1 hP
  refine kVN (rest := []) X dX3_readTie_33 wd_3_51 mw_X5_passDigits wd_3_14 wp_2_3 hF (k0 := 0) rfl rfl rfl hS hFA (c_X5_passDigits hco2) rfl hl.1 rfl (Nat.le_of_ble_eq_true rfl) rfl rfl ⟨Nat.le_of_ble_eq_true rfl, Nat.le_of_ble_eq_true rfl⟩ (fun H locs hF1 _ hk hS => ?_)
  have hP := un_OText_Scan_1 hP hk hF1
  refine W.eq (g2 := F0 m 36 ls []) rfl ?_
  refine lv_aload_n hx hb dX3_readTie_36 rfl (lv_at hl 2 rfl) ?_
  refine gf_X3_26_OText_0 X hP dX3_readTie_37 ?_
  refine gf_X3_30_OText_1 X hP dX3_readTie_40 ?_
  refine lv_iload_n hx hb dX3_readTie_43 rfl (lv_at hl 0 rfl) ?_
  refine lv_isub hx hb dX3_readTie_44 ?_
  refine lv_topi (fun v3 ev3 => ?_)
  have h := lt_at ev3 h
  refine lv_istore (lv' := [(4, .int v3), (3, .int v1), (2, .int s_at), (0, .ref a0), (1, .int p0)]) hx hb dX3_readTie_45 hl (by decide) rfl (fun ls hl => ?_)
  refine lv_iload hx hb dX3_readTie_47 (lv_at hl 0 rfl) ?_
  refine lv_iconst (v := 1) hx hb dX3_readTie_49 rfl ?_
  refine lv_icmp_lt (tgt := 74) hx hb dX3_readTie_50 rfl (fun c50 => ?_) (fun c50 => ?_)
  · have h := br_p c50 h
    exact b74   s_at o2 o_ties _ _ _ h hP hS (lv_sub hl [2] rfl)
  · have h := br_n c50 h
    refine lv_iload hx hb dX3_readTie_53 (lv_at hl 0 rfl) ?_
    refine lv_iconst (v := 2) hx hb dX3_readTie_55 rfl ?_
    refine lv_icmp_gt (tgt := 74) hx hb dX3_readTie_56 rfl (fun c56 => ?_) (fun c56 => ?_)
    · have h := br_p c56 h
      exact b74   s_at o2 o_ties _ _ _ h hP hS (lv_sub hl [2] rfl)
    · have h := br_n c56 h
      refine lv_aload_n hx hb dX3_readTie_59 rfl (lv_at hl 3 rfl) ?_
      refine gf_X3_26_OText_0 X hP dX3_readTie_60 ?_
      refine lv_iload_n hx hb dX3_readTie_63 rfl (lv_at hl 1 rfl) ?_
      obtain ⟨o4, hco4, h⟩ := bd_of h
      obtain ⟨hF, hFA⟩ := fo_OText_Scan_1 hP
      refine kVN (rest := []) X dX3_readTie_64 wd_3_52 mw_X5_number wd_3_22 wp_2_5 hF (k0 := 0) rfl rfl rfl hS hFA (c_X5_number hco4) rfl hl.1 rfl (Nat.le_of_ble_eq_true rfl) rfl rfl ⟨Nat.le_of_ble_eq_true rfl, Nat.le_of_ble_eq_true rfl⟩ (fun H locs hF1 _ hk hS => ?_)
      have hP := un_OText_Scan_1 hP hk hF1
      refine W.eq (g2 := F0 m 67 ls [.int o4]) rfl ?_
      refine lv_aload_n hx hb dX3_readTie_67 rfl (lv_at hl 3 rfl) ?_
      refine gf_X3_34_OText_0 X hP dX3_readTie_68 ?_
      refine lv_icmp_lt (tgt := 76) hx hb dX3_readTie_71 rfl (fun c71 => ?_) (fun c71 => ?_)
      · have h := br_p c71 h
        refine lv_aload_n hx hb dX3_readTie_76 rfl (lv_at hl 3 rfl) ?_
        refine gf_X3_26_OText_0 X hP dX3_readTie_77 ?_
        obtain ⟨o5, hco5, h⟩ := bd_of h
        obtain ⟨hF, hFA⟩ := fo_OText_Scan_1 hP
        refine kVN (rest := []) X dX3_readTie_80 wd_3_46 mw_X5_here wd_2_168 wp_1_12 hF (k0 := 0) rfl rfl rfl hS hFA (c_X5_here hco5) rfl hl.1 rfl (Nat.le_of_ble_eq_true rfl) rfl rfl ⟨Nat.le_of_ble_eq_true rfl, Nat.le_of_ble_eq_true rfl⟩ (fun H locs hF1 _ hk hS => ?_)
        have hP := un_OText_Scan_1 hP hk hF1
        refine W.eq (g2 := F0 m 83 ls [.int o5]) rfl ?_
        refine lv_bipush (v := 39) hx hb dX3_readTie_83 rfl ?_
        refine jx1 h (P := fun (v6 : Bool) => ∀ ls : Array Slot, lv_has ls 6 [(0, .ref a0), (1, .int p0), (3, .int v1)] → W p l e rm_X3_readTie s m args below meth c H locs 0 0 Q (F0 m 93 ls [.int (bI v6)])) ?_ ?_
        · intro v6 h ls hl
          refine lv_istore (lv' := [(5, .int (bI v6)), (0, .ref a0), (1, .int p0), (3, .int v1)]) hx hb dX3_readTie_93 hl (by decide) rfl (fun ls hl => ?_)
          refine lv_aload_n hx hb dX3_readTie_95 rfl (lv_at hl 1 rfl) ?_
          refine gf_X3_18_OText_0 X hP dX3_readTie_96 ?_
          refine lv_iload_n hx hb dX3_readTie_99 rfl (lv_at hl 2 rfl) ?_
          refine lv_iconst (v := 2) hx hb dX3_readTie_100 rfl ?_
          refine lv_aload_n hx hb dX3_readTie_101 rfl (lv_at hl 1 rfl) ?_
          refine gf_X3_26_OText_0 X hP dX3_readTie_102 ?_
          refine lv_iload_n hx hb dX3_readTie_105 rfl (lv_at hl 3 rfl) ?_
          obtain ⟨o7, hco7, h⟩ := bd_of h
          obtain ⟨hF, hFA⟩ := fo_OText_Scan_1 hP
          refine kVN (rest := [.int 2, .int p0, .ref a6]) X dX3_readTie_106 wd_3_52 mw_X5_number wd_3_22 wp_2_5 hF (k0 := 0) rfl rfl rfl hS hFA (c_X5_number hco7) rfl hl.1 rfl (Nat.le_of_ble_eq_true rfl) rfl rfl ⟨Nat.le_of_ble_eq_true rfl, Nat.le_of_ble_eq_true rfl⟩ (fun H locs hF1 _ hk hS => ?_)
          have hP := un_OText_Scan_1 hP hk hF1
          refine W.eq (g2 := F0 m 109 ls [.int o7, .int 2, .int p0, .ref a6]) rfl ?_
          refine lv_imul hx hb dX3_readTie_109 ?_
          refine lv_iload hx hb dX3_readTie_110 (lv_at hl 0 rfl) ?_
          refine jx1 h (P := fun (v8 : Bool) => ∀ ls : Array Slot, lv_has ls 6 [(0, .ref a0), (5, .int (bI v6))] → W p l e rm_X3_readTie s m args below meth c H locs 0 0 Q (F0 m 120 ls [.int (bI v8), .int ((2 : Int32) * o7), .int p0, .ref a6])) ?_ ?_
          · intro v8 h ls hl
            refine lv_iadd hx hb dX3_readTie_120 ?_
            refine lv_topi (fun v9 ev9 => ?_)
            have h := lt_at ev9 h
            obtain ⟨hi121, h⟩ := gv_of h
            refine as_OText_6 (v0 := v9) X hP hS hi121 dX3_readTie_121 (fun H locs hP hS => ?_)
            refine lv_aload_n hx hb dX3_readTie_122 rfl (lv_at hl 0 rfl) ?_
            refine gf_X3_26_OText_0 X hP dX3_readTie_123 ?_
            refine lv_dup hx hb dX3_readTie_126 rfl ?_
            refine gf_X3_30_OText_1 X hP dX3_readTie_127 ?_
            refine lv_iload hx hb dX3_readTie_130 (lv_at hl 1 rfl) ?_
            refine jx1 h (P := fun (v10 : Bool) => ∀ ls : Array Slot, lv_has ls 6 [] → W p l e rm_X3_readTie s m args below meth c H locs 0 0 Q (F0 m 140 ls [.int (bI v10), .int o2, .ref a1])) ?_ ?_
            · intro v10 h ls hl
              refine lv_iadd hx hb dX3_readTie_140 ?_
              refine lv_topi (fun v11 ev11 => ?_)
              have h := lt_at ev11 h
              refine pf_X3_30_OText_1 (v0 := v11) X hP hS dX3_readTie_141 (fun H locs hP hS => ?_)
              refine lv_iconst (v := (-1)) hx hb dX3_readTie_144 rfl ?_
              exact ret h hP hS dX3_readTie_145
            · intro J h
              refine rb_eq (tgt := 139) hx hb dX3_readTie_132 rfl (fun c132 => ?_) (fun c132 => ?_)
              · refine lv_iconst (v := 0) hx hb dX3_readTie_139 rfl ?_
                exact J _ (lt_in c132 h) ls (lv_sub hl [] rfl)
              · refine lv_iconst (v := 1) hx hb dX3_readTie_135 rfl ?_
                refine lv_goto (tgt := 140) hx hb dX3_readTie_136 rfl ?_
                exact J _ (lt_ip c132 h) ls (lv_sub hl [] rfl)
          · intro J h
            refine rb_eq (tgt := 119) hx hb dX3_readTie_112 rfl (fun c112 => ?_) (fun c112 => ?_)
            · refine lv_iconst (v := 0) hx hb dX3_readTie_119 rfl ?_
              exact J _ (lt_in c112 h) ls (lv_sub hl [1, 0] rfl)
            · refine lv_iconst (v := 1) hx hb dX3_readTie_115 rfl ?_
              refine lv_goto (tgt := 120) hx hb dX3_readTie_116 rfl ?_
              exact J _ (lt_ip c112 h) ls (lv_sub hl [1, 0] rfl)
        · intro J h
          refine lv_icmp_ne (tgt := 92) hx hb dX3_readTie_85 rfl (fun c85 => ?_) (fun c85 => ?_)
          · refine lv_iconst (v := 0) hx hb dX3_readTie_92 rfl ?_
            exact J _ (lt_in c85 h) ls (lv_sub hl [3, 4, 1] rfl)
          · refine lv_iconst (v := 1) hx hb dX3_readTie_88 rfl ?_
            refine lv_goto (tgt := 93) hx hb dX3_readTie_89 rfl ?_
            exact J _ (lt_ip c85 h) ls (lv_sub hl [3, 4, 1] rfl)
      · have h := br_n c71 h
        exact b74   s_at o2 o_ties _ _ _ h hP hS (lv_sub hl [2] rfl)
abbrev rm_X3_readOperands : Room := { frames := 4, cells := 0, slots := 0, locals := 85 }
set_option maxRecDepth 100000 in
set_option maxHeartbeats 4000000 in
theorem c_X3_readOperands {g : gT} {l : Launch} {A : Nat → Prop} {a0 a1 a2 a3 a4 a5 a6 : Nat} {o_lines : Int32} {s_at : Int32} {t_length : Int32} {t_bytes : Nat → Int32} {o_kinds : Nat → Int32} {o_operands : Nat → Int32} {o_ties : Nat → Int32} {p0 : Int32} {p1 : Int32} {o : Int32 × Int32 × (Nat → Int32) × (Nat → Int32)} (h : f_X3_readOperands p0 p1 o_lines s_at t_length t_bytes o_operands o_ties = some o) : Std g l yX3_readOperands (.code yX3_readOperands cX3_readOperands 5 (some .int) :: gw) rm_X3_readOperands A [.ref a0, .int p0, .int p1] (wOText g a0 a1 a2 a3 a4 a5 a6 o_lines s_at t_length t_bytes o_kinds o_operands o_ties) (wOText g a0 a1 a2 a3 a4 a5 a6 o_lines o.2.1 t_length t_bytes o_kinds o.2.2.1 o.2.2.2) (some (.int o.1)) := by
  refine std_i (own := RX3) (by decide +kernel) rfl (Nat.le_of_ble_eq_true rfl) ?_
  intro p e s m args below meth c Q X ret H locs hP hS ls hl
  have hx := X.1
  have hb := X.2.1
  have hl : lv_has ls 5 [(0, .ref a0), (1, .int p0), (2, .int p1)] := hl
  have ret : ∀ {H : Heap} {locs : List Loc} {pc : Nat} {ls : Array Slot} {v : Int32} {s_at : Int32} {o_operands : Nat → Int32} {o_ties : Nat → Int32}, some (v, s_at, o_operands, o_ties) = some o → WP g A (wOText g a0 a1 a2 a3 a4 a5 a6 o_lines s_at t_length t_bytes o_kinds o_operands o_ties) H → va_S A s.heap H locs → decode cX3_readOperands pc = .ok (.ireturn, 1) → W p l e rm_X3_readOperands s m args below meth c H locs 0 0 Q (F0 m pc ls [.int v]) := by
    intro H locs pc ls v s_at o_operands o_ties h hP hS hd
    cases h
    exact ret hP hS hd
  have b65 : ∀ (s_at : Int32) (o_operands : Nat → Int32) (o_ties : Nat → Int32) (H : Heap) (locs : List Loc) (ls : Array Slot), f_X3_readOperands_b65  o_lines t_length t_bytes  s_at o_operands o_ties = some o → WP g A (wOText g a0 a1 a2 a3 a4 a5 a6 o_lines s_at t_length t_bytes o_kinds o_operands o_ties) H → va_S A s.heap H locs → lv_has ls 5 [] → W p l e rm_X3_readOperands s m args below meth c H locs 0 0 Q (F0 m 65 ls []) := by
    intro  s_at o_operands o_ties H locs ls h hP hS hl
    unfold f_X3_readOperands_b65 at h
    refine lv_iconst (v := (-1)) hx hb dX3_readOperands_65 rfl ?_
    exact ret h hP hS dX3_readOperands_66
  have b48 : ∀ (k2 : Int32 → Int32 → Int32 → Int32 → (Nat → Int32) → (Nat → Int32) → Option (Int32 × Int32 × (Nat → Int32) × (Nat → Int32))) (hk2 : ∀ (x1 : Int32) (x2 : Int32) (x3 : Int32) (s_at : Int32) (o_operands : Nat → Int32) (o_ties : Nat → Int32) (H : Heap) (locs : List Loc) (ls : Array Slot), k2 x1 x2 x3 s_at o_operands o_ties = some o → WP g A (wOText g a0 a1 a2 a3 a4 a5 a6 o_lines s_at t_length t_bytes o_kinds o_operands o_ties) H → va_S A s.heap H locs → lv_has ls 5 [(0, .ref a0), (1, .int x1), (2, .int x2), (3, .int x3)] → W p l e rm_X3_readOperands s m args below meth c H locs 0 0 Q (F0 m 2 ls [])) , ∀ (x1 : Int32) (x2 : Int32) (x3 : Int32) (t0 : Int32) (s_at : Int32) (o_operands : Nat → Int32) (o_ties : Nat → Int32) (H : Heap) (locs : List Loc) (ls : Array Slot), f_X3_readOperands_b48  o_lines t_length t_bytes k2 x1 x2 x3 t0 s_at o_operands o_ties = some o → WP g A (wOText g a0 a1 a2 a3 a4 a5 a6 o_lines s_at t_length t_bytes o_kinds o_operands o_ties) H → va_S A s.heap H locs → lv_has ls 5 [(0, .ref a0), (1, .int x1), (2, .int x2), (3, .int x3)] → W p l e rm_X3_readOperands s m args below meth c H locs 0 0 Q (F0 m 48 ls [.int t0]) := by
    intro k2 hk2 x1 x2 x3 t0 s_at o_operands o_ties H locs ls h hP hS hl
    unfold f_X3_readOperands_b48 at h
    refine lv_istore (lv' := [(4, .int t0), (0, .ref a0), (1, .int x1), (2, .int x2), (3, .int x3)]) hx hb dX3_readOperands_48 hl (by decide) rfl (fun ls hl => ?_)
    refine lv_iload hx hb dX3_readOperands_50 (lv_at hl 0 rfl) ?_
    refine lv_iconst (v := (-1)) hx hb dX3_readOperands_52 rfl ?_
    refine lv_icmp_eq (tgt := 59) hx hb dX3_readOperands_53 rfl (fun c53 => ?_) (fun c53 => ?_)
    · have h := br_p c53 h
      obtain ⟨v4, ev4⟩ : ∃ z : Int32, z = (x3 + 1) := ⟨_, rfl⟩
      have h := lt_at ev4 h
      refine lv_iinc (v := v4) (lv' := [(3, .int v4), (4, .int t0), (0, .ref a0), (1, .int x1), (2, .int x2)]) hx hb dX3_readOperands_59 hl (k := 4) rfl (by rw [ev4]; rfl) (by decide) rfl (fun ls hl => ?_)
      refine lv_goto (tgt := 2) hx hb dX3_readOperands_62 rfl ?_
      exact hk2 x1 x2 v4 s_at o_operands o_ties _ _ _ h hP hS (lv_sub hl [2, 3, 4, 0] rfl)
    · have h := br_n c53 h
      refine lv_iload hx hb dX3_readOperands_56 (lv_at hl 0 rfl) ?_
      exact ret h hP hS dX3_readOperands_58
  have l2 : ∀ (n : Nat), ∀ (x1 : Int32) (x2 : Int32) (x3 : Int32) (s_at : Int32) (o_operands : Nat → Int32) (o_ties : Nat → Int32) (H : Heap) (locs : List Loc) (ls : Array Slot), f_X3_readOperands_l2  o_lines t_length t_bytes  n x1 x2 x3 s_at o_operands o_ties = some o → WP g A (wOText g a0 a1 a2 a3 a4 a5 a6 o_lines s_at t_length t_bytes o_kinds o_operands o_ties) H → va_S A s.heap H locs → lv_has ls 5 [(0, .ref a0), (1, .int x1), (2, .int x2), (3, .int x3)] → W p l e rm_X3_readOperands s m args below meth c H locs 0 0 Q (F0 m 2 ls []) := by
    intro  n
    induction n with
    | zero =>
      intro x1 x2 x3 s_at o_operands o_ties H locs ls h
      exact nz_of h
    | succ n ih =>
      intro x1 x2 x3 s_at o_operands o_ties H locs ls h hP hS hl
      rw [f_X3_readOperands_l2] at h
      refine lv_iload_n hx hb dX3_readOperands_2 rfl (lv_at hl 3 rfl) ?_
      refine lv_iload_n hx hb dX3_readOperands_3 rfl (lv_at hl 2 rfl) ?_
      refine lv_icmp_ge (tgt := 65) hx hb dX3_readOperands_4 rfl (fun c4 => ?_) (fun c4 => ?_)
      · have h := br_p c4 h
        exact b65   s_at o_operands o_ties _ _ _ h hP hS (lv_sub hl [] rfl)
      · have h := br_n c4 h
        refine lv_iload_n hx hb dX3_readOperands_7 rfl (lv_at hl 3 rfl) ?_
        refine lv_iconst (v := 3) hx hb dX3_readOperands_8 rfl ?_
        refine lv_icmp_ge (tgt := 65) hx hb dX3_readOperands_9 rfl (fun c9 => ?_) (fun c9 => ?_)
        · have h := br_p c9 h
          exact b65   s_at o_operands o_ties _ _ _ h hP hS (lv_sub hl [] rfl)
        · have h := br_n c9 h
          refine lv_aload_n hx hb dX3_readOperands_12 rfl (lv_at hl 0 rfl) ?_
          refine gf_X3_26_OText_0 X hP dX3_readOperands_13 ?_
          obtain ⟨o1, hco1, h⟩ := bd_of h
          obtain ⟨hF, hFA⟩ := fo_OText_Scan_1 hP
          refine kVN (rest := []) X dX3_readOperands_16 wd_3_37 mw_X5_skipBlanks wd_2_164 wp_1_11 hF (k0 := 0) rfl rfl rfl hS hFA (c_X5_skipBlanks hco1) rfl hl.1 rfl (Nat.le_of_ble_eq_true rfl) rfl rfl ⟨Nat.le_of_ble_eq_true rfl, Nat.le_of_ble_eq_true rfl⟩ (fun H locs hF1 _ hk hS => ?_)
          have hP := un_OText_Scan_1 hP hk hF1
          refine W.eq (g2 := F0 m 19 ls []) rfl ?_
          refine lv_aload_n hx hb dX3_readOperands_19 rfl (lv_at hl 0 rfl) ?_
          refine gf_X3_26_OText_0 X hP dX3_readOperands_20 ?_
          obtain ⟨o2, hco2, h⟩ := bd_of h
          obtain ⟨hF, hFA⟩ := fo_OText_Scan_1 hP
          refine kVN (rest := []) X dX3_readOperands_23 wd_3_46 mw_X5_here wd_2_168 wp_1_12 hF (k0 := 0) rfl rfl rfl hS hFA (c_X5_here hco2) rfl hl.1 rfl (Nat.le_of_ble_eq_true rfl) rfl rfl ⟨Nat.le_of_ble_eq_true rfl, Nat.le_of_ble_eq_true rfl⟩ (fun H locs hF1 _ hk hS => ?_)
          have hP := un_OText_Scan_1 hP hk hF1
          refine W.eq (g2 := F0 m 26 ls [.int o2]) rfl ?_
          refine lv_bipush (v := 64) hx hb dX3_readOperands_26 rfl ?_
          refine lv_icmp_ne (tgt := 41) hx hb dX3_readOperands_28 rfl (fun c28 => ?_) (fun c28 => ?_)
          · have h := br_n c28 h
            refine lv_aload_n hx hb dX3_readOperands_41 rfl (lv_at hl 0 rfl) ?_
            refine lv_iload_n hx hb dX3_readOperands_42 rfl (lv_at hl 1 rfl) ?_
            refine lv_iload_n hx hb dX3_readOperands_43 rfl (lv_at hl 3 rfl) ?_
            refine lv_iadd hx hb dX3_readOperands_44 ?_
            obtain ⟨o3, hco3, h⟩ := bd_of h
            refine kV (rest := []) X dX3_readOperands_45 wd_3_53 mw_X3_readNumber wd_3_55 wp_2_11 hP (k0 := 0) rfl rfl rfl hS (fun _ z => z) (c_X3_readNumber hco3) rfl hl.1 rfl (Nat.le_of_ble_eq_true rfl) rfl rfl ⟨Nat.le_of_ble_eq_true rfl, Nat.le_of_ble_eq_true rfl⟩ (fun H locs hP _ _ hS => ?_)
            refine W.eq (g2 := F0 m 48 ls [.int o3.1]) rfl ?_
            exact b48 (f_X3_readOperands_l2  o_lines t_length t_bytes  n) ih  x1 x2 x3 o3.1 o3.2.1 o3.2.2 o_ties _ _ _ h hP hS (lv_sub hl [0, 1, 2, 3] rfl)
          · have h := br_p c28 h
            refine lv_aload_n hx hb dX3_readOperands_31 rfl (lv_at hl 0 rfl) ?_
            refine lv_iload_n hx hb dX3_readOperands_32 rfl (lv_at hl 1 rfl) ?_
            refine lv_iload_n hx hb dX3_readOperands_33 rfl (lv_at hl 3 rfl) ?_
            refine lv_iadd hx hb dX3_readOperands_34 ?_
            obtain ⟨o5, hco5, h⟩ := bd_of h
            refine kV (rest := []) X dX3_readOperands_35 wd_3_47 mw_X3_readTie wd_3_49 wp_2_10 hP (k0 := 0) rfl rfl rfl hS (fun _ z => z) (c_X3_readTie hco5) rfl hl.1 rfl (Nat.le_of_ble_eq_true rfl) rfl rfl ⟨Nat.le_of_ble_eq_true rfl, Nat.le_of_ble_eq_true rfl⟩ (fun H locs hP _ _ hS => ?_)
            refine W.eq (g2 := F0 m 38 ls [.int o5.1]) rfl ?_
            refine lv_goto (tgt := 48) hx hb dX3_readOperands_38 rfl ?_
            exact b48 (f_X3_readOperands_l2  o_lines t_length t_bytes  n) ih  x1 x2 x3 o5.1 o5.2.1 o_operands o5.2.2 _ _ _ h hP hS (lv_sub hl [0, 1, 2, 3] rfl)
  unfold f_X3_readOperands at h
  refine lv_iconst (v := 0) hx hb dX3_readOperands_0 rfl ?_
  refine lv_istore_n (lv' := [(3, .int 0), (0, .ref a0), (1, .int p0), (2, .int p1)]) hx hb dX3_readOperands_1 rfl hl (by decide) rfl (fun ls hl => ?_)
  exact l2  FU p0 p1 (0 : Int32) s_at o_operands o_ties _ _ _ h hP hS (lv_sub hl [1, 2, 3, 0] rfl)
abbrev rm_X3_readLine : Room := { frames := 5, cells := 0, slots := 0, locals := 113 }
set_option maxRecDepth 100000 in
set_option maxHeartbeats 4000000 in
theorem c_X3_readLine {g : gT} {l : Launch} {A : Nat → Prop} {a0 a1 a2 a3 a4 a5 a6 : Nat} {o_lines : Int32} {s_at : Int32} {t_length : Int32} {t_bytes : Nat → Int32} {o_kinds : Nat → Int32} {o_operands : Nat → Int32} {o_ties : Nat → Int32} {p0 : Int32} {o : Int32 × Int32 × (Nat → Int32) × (Nat → Int32) × (Nat → Int32)} (h : f_X3_readLine p0 o_lines s_at t_length t_bytes o_kinds o_operands o_ties = some o) : Std g l yX3_readLine (.code yX3_readLine cX3_readLine 5 (some .int) :: gw) rm_X3_readLine A [.ref a0, .int p0] (wOText g a0 a1 a2 a3 a4 a5 a6 o_lines s_at t_length t_bytes o_kinds o_operands o_ties) (wOText g a0 a1 a2 a3 a4 a5 a6 o_lines o.2.1 t_length t_bytes o.2.2.1 o.2.2.2.1 o.2.2.2.2) (some (.int o.1)) := by
  refine std_i (own := RX3) (by decide +kernel) rfl (Nat.le_of_ble_eq_true rfl) ?_
  intro p e s m args below meth c Q X ret H locs hP hS ls hl
  have hx := X.1
  have hb := X.2.1
  have hl : lv_has ls 5 [(0, .ref a0), (1, .int p0)] := hl
  have ret : ∀ {H : Heap} {locs : List Loc} {pc : Nat} {ls : Array Slot} {v : Int32} {s_at : Int32} {o_kinds : Nat → Int32} {o_operands : Nat → Int32} {o_ties : Nat → Int32}, some (v, s_at, o_kinds, o_operands, o_ties) = some o → WP g A (wOText g a0 a1 a2 a3 a4 a5 a6 o_lines s_at t_length t_bytes o_kinds o_operands o_ties) H → va_S A s.heap H locs → decode cX3_readLine pc = .ok (.ireturn, 1) → W p l e rm_X3_readLine s m args below meth c H locs 0 0 Q (F0 m pc ls [.int v]) := by
    intro H locs pc ls v s_at o_kinds o_operands o_ties h hP hS hd
    cases h
    exact ret hP hS hd
  have l60 : ∀ (n : Nat), ∀ (x1 : Int32) (x2 : Int32) (x3 : Int32) (x4 : Int32) (s_at : Int32) (o_kinds : Nat → Int32) (o_operands : Nat → Int32) (o_ties : Nat → Int32) (H : Heap) (locs : List Loc) (ls : Array Slot), f_X3_readLine_l60  o_lines t_length t_bytes  n x1 x2 x3 x4 s_at o_kinds o_operands o_ties = some o → WP g A (wOText g a0 a1 a2 a3 a4 a5 a6 o_lines s_at t_length t_bytes o_kinds o_operands o_ties) H → va_S A s.heap H locs → lv_has ls 5 [(0, .ref a0), (1, .int x1), (2, .int x2), (3, .int x3), (4, .int x4)] → W p l e rm_X3_readLine s m args below meth c H locs 0 0 Q (F0 m 60 ls []) := by
    intro  n
    induction n with
    | zero =>
      intro x1 x2 x3 x4 s_at o_kinds o_operands o_ties H locs ls h
      exact nz_of h
    | succ n ih =>
      intro x1 x2 x3 x4 s_at o_kinds o_operands o_ties H locs ls h hP hS hl
      rw [f_X3_readLine_l60] at h
      refine lv_iload hx hb dX3_readLine_60 (lv_at hl 4 rfl) ?_
      refine sgN X hS (sfX X).1 wd_3_39 dX3_readLine_62 ?_
      refine stl (v := 9) X hS (sfX X).2.2.2.2.2.2.2.1 rfl dX3_readLine_65 ?_
      refine lv_icmp_ge (tgt := 118) hx hb dX3_readLine_66 rfl (fun c66 => ?_) (fun c66 => ?_)
      · have h := br_p c66 h
        refine lv_iload_n hx hb dX3_readLine_118 rfl (lv_at hl 3 rfl) ?_
        exact ret h hP hS dX3_readLine_119
      · have h := br_n c66 h
        refine lv_aload_n hx hb dX3_readLine_69 rfl (lv_at hl 0 rfl) ?_
        refine gf_X3_26_OText_0 X hP dX3_readLine_70 ?_
        refine sgN X hS (sfX X).1 wd_3_39 dX3_readLine_73 ?_
        refine lv_iload hx hb dX3_readLine_76 (lv_at hl 4 rfl) ?_
        obtain ⟨hi78, h⟩ := gv_of h
        refine stq X hS (sfX X).2.2.2.2.2.2.2.1 hi78 dX3_readLine_78 ?_
        refine W.eq (g2 := F0 m 79 ls [.ref (g.2 (20 + (x4).toNatClampNeg)), .ref a1]) rfl ?_
        refine ofN X hS ((sfX X).2.2.2.2.2.2.2.2.2.2.2.2.1 _ (vin_lt hi78)).2.2.1 wd_7_228 dX3_readLine_79 ?_
        refine lv_iload_n hx hb dX3_readLine_82 rfl (lv_at hl 3 rfl) ?_
        obtain ⟨o4, hco4, h⟩ := bd_of h
        obtain ⟨hF, hFA⟩ := fo_OText_Scan_1 hP
        refine kVN (rest := []) X dX3_readLine_83 wd_3_41 mw_X5_reads wd_2_182 wp_1_15 hF (k0 := 0) rfl rfl rfl hS hFA (c_X5_reads (Nat.lt_of_lt_of_le (vin_lt hi78) (Nat.le_of_ble_eq_true rfl)) hco4) rfl hl.1 rfl (Nat.le_of_ble_eq_true rfl) rfl rfl ⟨Nat.le_of_ble_eq_true rfl, Nat.le_of_ble_eq_true rfl⟩ (fun H locs hF1 _ hk hS => ?_)
        have hP := un_OText_Scan_1 hP hk hF1
        refine W.eq (g2 := F0 m 86 ls [.int (bI o4)]) rfl ?_
        refine rb_eq (tgt := 112) hx hb dX3_readLine_86 rfl (fun c86 => ?_) (fun c86 => ?_)
        · have h := br_n c86 h
          obtain ⟨v5, ev5⟩ : ∃ z : Int32, z = (x4 + 1) := ⟨_, rfl⟩
          have h := lt_at ev5 h
          refine lv_iinc (v := v5) (lv' := [(4, .int v5), (0, .ref a0), (1, .int x1), (2, .int x2), (3, .int x3)]) hx hb dX3_readLine_112 hl (k := 4) rfl (by rw [ev5]; rfl) (by decide) rfl (fun ls hl => ?_)
          refine lv_goto (tgt := 60) hx hb dX3_readLine_115 rfl ?_
          exact ih x1 x2 x3 v5 s_at o_kinds o_operands o_ties _ _ _ h hP hS (lv_sub hl [1, 2, 3, 4, 0] rfl)
        · have h := br_p c86 h
          refine lv_aload_n hx hb dX3_readLine_89 rfl (lv_at hl 0 rfl) ?_
          refine gf_X3_9_OText_0 X hP dX3_readLine_90 ?_
          refine lv_iload_n hx hb dX3_readLine_93 rfl (lv_at hl 1 rfl) ?_
          refine lv_iload hx hb dX3_readLine_94 (lv_at hl 4 rfl) ?_
          obtain ⟨hi96, h⟩ := gv_of h
          refine as_OText_4 (v0 := x4) X hP hS hi96 dX3_readLine_96 (fun H locs hP hS => ?_)
          refine lv_aload_n hx hb dX3_readLine_97 rfl (lv_at hl 0 rfl) ?_
          refine lv_iload_n hx hb dX3_readLine_98 rfl (lv_at hl 2 rfl) ?_
          refine sgN X hS (sfX X).1 wd_3_39 dX3_readLine_99 ?_
          refine lv_iload hx hb dX3_readLine_102 (lv_at hl 4 rfl) ?_
          obtain ⟨hi104, h⟩ := gv_of h
          refine stq X hS (sfX X).2.2.2.2.2.2.2.1 hi104 dX3_readLine_104 ?_
          refine W.eq (g2 := F0 m 105 ls [.ref (g.2 (20 + (x4).toNatClampNeg)), .int x2, .ref a0]) rfl ?_
          refine ofN X hS ((sfX X).2.2.2.2.2.2.2.2.2.2.2.2.1 _ (vin_lt hi104)).2.2.2.1 wd_7_229 dX3_readLine_105 ?_
          obtain ⟨o6, hco6, h⟩ := bd_of h
          refine kV (rest := []) X dX3_readLine_108 wd_3_42 mw_X3_readOperands wd_3_44 wp_2_9 hP (k0 := 0) rfl rfl rfl hS (fun _ z => z) (c_X3_readOperands hco6) rfl hl.1 rfl (Nat.le_of_ble_eq_true rfl) rfl rfl ⟨Nat.le_of_ble_eq_true rfl, Nat.le_of_ble_eq_true rfl⟩ (fun H locs hP _ _ hS => ?_)
          refine W.eq (g2 := F0 m 111 ls [.int o6.1]) rfl ?_
          exact ret h hP hS dX3_readLine_111
  have l6 : ∀ (n : Nat), ∀ (x1 : Int32) (x2 : Int32) (x3 : Int32) (s_at : Int32) (o_kinds : Nat → Int32) (o_operands : Nat → Int32) (o_ties : Nat → Int32) (H : Heap) (locs : List Loc) (ls : Array Slot), f_X3_readLine_l6  o_lines t_length t_bytes  n x1 x2 x3 s_at o_kinds o_operands o_ties = some o → WP g A (wOText g a0 a1 a2 a3 a4 a5 a6 o_lines s_at t_length t_bytes o_kinds o_operands o_ties) H → va_S A s.heap H locs → lv_has ls 5 [(0, .ref a0), (1, .int x1), (2, .int x2), (3, .int x3)] → W p l e rm_X3_readLine s m args below meth c H locs 0 0 Q (F0 m 6 ls []) := by
    intro  n
    induction n with
    | zero =>
      intro x1 x2 x3 s_at o_kinds o_operands o_ties H locs ls h
      exact nz_of h
    | succ n ih =>
      intro x1 x2 x3 s_at o_kinds o_operands o_ties H locs ls h hP hS hl
      rw [f_X3_readLine_l6] at h
      refine lv_iload_n hx hb dX3_readLine_6 rfl (lv_at hl 3 rfl) ?_
      refine lv_iconst (v := 3) hx hb dX3_readLine_7 rfl ?_
      refine lv_icmp_ge (tgt := 35) hx hb dX3_readLine_8 rfl (fun c8 => ?_) (fun c8 => ?_)
      · have h := br_p c8 h
        refine lv_aload_n hx hb dX3_readLine_35 rfl (lv_at hl 0 rfl) ?_
        refine gf_X3_26_OText_0 X hP dX3_readLine_36 ?_
        obtain ⟨o2, hco2, h⟩ := bd_of h
        obtain ⟨hF, hFA⟩ := fo_OText_Scan_1 hP
        refine kVN (rest := []) X dX3_readLine_39 wd_3_37 mw_X5_skipBlanks wd_2_164 wp_1_11 hF (k0 := 0) rfl rfl rfl hS hFA (c_X5_skipBlanks hco2) rfl hl.1 rfl (Nat.le_of_ble_eq_true rfl) rfl rfl ⟨Nat.le_of_ble_eq_true rfl, Nat.le_of_ble_eq_true rfl⟩ (fun H locs hF1 _ hk hS => ?_)
        have hP := un_OText_Scan_1 hP hk hF1
        refine W.eq (g2 := F0 m 42 ls []) rfl ?_
        refine lv_aload_n hx hb dX3_readLine_42 rfl (lv_at hl 0 rfl) ?_
        refine gf_X3_26_OText_0 X hP dX3_readLine_43 ?_
        refine gf_X3_30_OText_1 X hP dX3_readLine_46 ?_
        refine lv_istore_n (lv' := [(3, .int o2), (0, .ref a0), (1, .int x1), (2, .int x2)]) hx hb dX3_readLine_49 rfl hl (by decide) rfl (fun ls hl => ?_)
        refine lv_aload_n hx hb dX3_readLine_50 rfl (lv_at hl 1 rfl) ?_
        refine gf_X3_26_OText_0 X hP dX3_readLine_51 ?_
        obtain ⟨o3, hco3, h⟩ := bd_of h
        obtain ⟨hF, hFA⟩ := fo_OText_Scan_1 hP
        refine kVN (rest := []) X dX3_readLine_54 wd_3_38 mw_X5_passLetters wd_2_172 wp_1_13 hF (k0 := 0) rfl rfl rfl hS hFA (c_X5_passLetters hco3) rfl hl.1 rfl (Nat.le_of_ble_eq_true rfl) rfl rfl ⟨Nat.le_of_ble_eq_true rfl, Nat.le_of_ble_eq_true rfl⟩ (fun H locs hF1 _ hk hS => ?_)
        have hP := un_OText_Scan_1 hP hk hF1
        refine W.eq (g2 := F0 m 57 ls []) rfl ?_
        refine lv_iconst (v := 0) hx hb dX3_readLine_57 rfl ?_
        refine lv_istore (lv' := [(4, .int 0), (3, .int o2), (0, .ref a0), (1, .int x1), (2, .int x2)]) hx hb dX3_readLine_58 hl (by decide) rfl (fun ls hl => ?_)
        exact l60  FU x1 x2 o2 (0 : Int32) o3 o_kinds o_operands o_ties _ _ _ h hP hS (lv_sub hl [2, 3, 4, 1, 0] rfl)
      · have h := br_n c8 h
        refine lv_aload_n hx hb dX3_readLine_11 rfl (lv_at hl 0 rfl) ?_
        refine gf_X3_15_OText_0 X hP dX3_readLine_12 ?_
        refine lv_iload_n hx hb dX3_readLine_15 rfl (lv_at hl 2 rfl) ?_
        refine lv_iload_n hx hb dX3_readLine_16 rfl (lv_at hl 3 rfl) ?_
        refine lv_iadd hx hb dX3_readLine_17 ?_
        refine lv_iconst (v := 0) hx hb dX3_readLine_18 rfl ?_
        obtain ⟨hi19, h⟩ := gv_of h
        refine as_OText_5 (v0 := (0 : Int32)) X hP hS hi19 dX3_readLine_19 (fun H locs hP hS => ?_)
        refine lv_aload_n hx hb dX3_readLine_20 rfl (lv_at hl 0 rfl) ?_
        refine gf_X3_18_OText_0 X hP dX3_readLine_21 ?_
        refine lv_iload_n hx hb dX3_readLine_24 rfl (lv_at hl 2 rfl) ?_
        refine lv_iload_n hx hb dX3_readLine_25 rfl (lv_at hl 3 rfl) ?_
        refine lv_iadd hx hb dX3_readLine_26 ?_
        refine lv_iconst (v := (-1)) hx hb dX3_readLine_27 rfl ?_
        obtain ⟨hi28, h⟩ := gv_of h
        refine as_OText_6 (v0 := (-1 : Int32)) X hP hS hi28 dX3_readLine_28 (fun H locs hP hS => ?_)
        obtain ⟨v7, ev7⟩ : ∃ z : Int32, z = (x3 + 1) := ⟨_, rfl⟩
        have h := lt_at ev7 h
        refine lv_iinc (v := v7) (lv' := [(3, .int v7), (0, .ref a0), (1, .int x1), (2, .int x2)]) hx hb dX3_readLine_29 hl (k := 3) rfl (by rw [ev7]; rfl) (by decide) rfl (fun ls hl => ?_)
        refine lv_goto (tgt := 6) hx hb dX3_readLine_32 rfl ?_
        exact ih x1 x2 v7 s_at o_kinds (upd o_operands ((x2 + x3)).toNatClampNeg (0 : Int32)) (upd o_ties ((x2 + x3)).toNatClampNeg (-1 : Int32)) _ _ _ h hP hS (lv_sub hl [1, 2, 3, 0] rfl)
  unfold f_X3_readLine at h
  refine lv_iload_n hx hb dX3_readLine_0 rfl (lv_at hl 1 rfl) ?_
  refine lv_iconst (v := 3) hx hb dX3_readLine_1 rfl ?_
  refine lv_imul hx hb dX3_readLine_2 ?_
  refine lv_topi (fun v1 ev1 => ?_)
  have h := lt_at ev1 h
  refine lv_istore_n (lv' := [(2, .int v1), (0, .ref a0), (1, .int p0)]) hx hb dX3_readLine_3 rfl hl (by decide) rfl (fun ls hl => ?_)
  refine lv_iconst (v := 0) hx hb dX3_readLine_4 rfl ?_
  refine lv_istore_n (lv' := [(3, .int 0), (2, .int v1), (0, .ref a0), (1, .int p0)]) hx hb dX3_readLine_5 rfl hl (by decide) rfl (fun ls hl => ?_)
  exact l6  FU p0 v1 (0 : Int32) s_at o_kinds o_operands o_ties _ _ _ h hP hS (lv_sub hl [2, 3, 1, 0] rfl)
abbrev rm_X5_isAtEnd : Room := { frames := 0, cells := 0, slots := 0, locals := 0 }
set_option maxRecDepth 100000 in
set_option maxHeartbeats 4000000 in
theorem c_X5_isAtEnd {g : gT} {l : Launch} {A : Nat → Prop} {a0 a1 a2 : Nat} {s_at : Int32} {t_length : Int32} {t_bytes : Nat → Int32}  {o : Bool} (h : f_X5_isAtEnd  s_at t_length = some o) : Std g l yX5_isAtEnd (.code yX5_isAtEnd cX5_isAtEnd 1 (some .boolean) :: gw) rm_X5_isAtEnd A [.ref a0] (wScan g a0 a1 a2 s_at t_length t_bytes) (wScan g a0 a1 a2 s_at t_length t_bytes) (some (.int (bI o))) := by
  refine std_z (own := RX5) (by decide +kernel) rfl (Nat.le_of_ble_eq_true rfl) ?_
  intro p e s m args below meth c Q X ret H locs hP hS ls hl
  have hx := X.1
  have hb := X.2.1
  have hl : lv_has ls 1 [(0, .ref a0)] := hl
  have ret : ∀ {H : Heap} {locs : List Loc} {pc : Nat} {ls : Array Slot} {v : Bool} , some (v) = some o → WP g A (wScan g a0 a1 a2 s_at t_length t_bytes) H → va_S A s.heap H locs → decode cX5_isAtEnd pc = .ok (.ireturn, 1) → W p l e rm_X5_isAtEnd s m args below meth c H locs 0 0 Q (F0 m pc ls [.int (bI v)]) := by
    intro H locs pc ls v h hP hS hd
    cases h
    exact ret hP hS hd
  unfold f_X5_isAtEnd at h
  refine lv_aload_n hx hb dX5_isAtEnd_0 rfl (lv_at hl 0 rfl) ?_
  refine gf_X5_13_Scan_0 X hP dX5_isAtEnd_1 ?_
  refine lv_aload_n hx hb dX5_isAtEnd_4 rfl (lv_at hl 0 rfl) ?_
  refine gf_X5_7_Scan_0 X hP dX5_isAtEnd_5 ?_
  refine gf_X5_17_Scan_1 X hP dX5_isAtEnd_8 ?_
  refine jx1 h (P := fun (v1 : Bool) => ∀ ls : Array Slot, lv_has ls 1 [] → W p l e rm_X5_isAtEnd s m args below meth c H locs 0 0 Q (F0 m 19 ls [.int (bI v1)])) ?_ ?_
  · intro v1 h ls hl
    exact ret h hP hS dX5_isAtEnd_19
  · intro J h
    refine lv_icmp_lt (tgt := 18) hx hb dX5_isAtEnd_11 rfl (fun c11 => ?_) (fun c11 => ?_)
    · refine lv_iconst (v := 0) hx hb dX5_isAtEnd_18 rfl ?_
      exact J _ (lt_ip c11 h) ls (lv_sub hl [] rfl)
    · refine lv_iconst (v := 1) hx hb dX5_isAtEnd_14 rfl ?_
      refine lv_goto (tgt := 19) hx hb dX5_isAtEnd_15 rfl ?_
      exact J _ (lt_in c11 h) ls (lv_sub hl [] rfl)
abbrev rm_X3_read : Room := { frames := 6, cells := 0, slots := 0, locals := 137 }
set_option maxRecDepth 100000 in
set_option maxHeartbeats 4000000 in
theorem c_X3_read {g : gT} {l : Launch} {A : Nat → Prop} {a0 a1 a2 a3 a4 a5 a6 : Nat} {o_lines : Int32} {s_at : Int32} {t_length : Int32} {t_bytes : Nat → Int32} {o_kinds : Nat → Int32} {o_operands : Nat → Int32} {o_ties : Nat → Int32}  {o : Int32 × Int32 × Int32 × (Nat → Int32) × (Nat → Int32) × (Nat → Int32)} (h : f_X3_read  o_lines s_at t_length t_bytes o_kinds o_operands o_ties = some o) : Std g l yX3_read (.code yX3_read cX3_read 3 (some .int) :: gw) rm_X3_read A [.ref a0] (wOText g a0 a1 a2 a3 a4 a5 a6 o_lines s_at t_length t_bytes o_kinds o_operands o_ties) (wOText g a0 a1 a2 a3 a4 a5 a6 o.2.1 o.2.2.1 t_length t_bytes o.2.2.2.1 o.2.2.2.2.1 o.2.2.2.2.2) (some (.int o.1)) := by
  refine std_i (own := RX3) (by decide +kernel) rfl (Nat.le_of_ble_eq_true rfl) ?_
  intro p e s m args below meth c Q X ret H locs hP hS ls hl
  have hx := X.1
  have hb := X.2.1
  have hl : lv_has ls 3 [(0, .ref a0)] := hl
  have ret : ∀ {H : Heap} {locs : List Loc} {pc : Nat} {ls : Array Slot} {v : Int32} {o_lines : Int32} {s_at : Int32} {o_kinds : Nat → Int32} {o_operands : Nat → Int32} {o_ties : Nat → Int32}, some (v, o_lines, s_at, o_kinds, o_operands, o_ties) = some o → WP g A (wOText g a0 a1 a2 a3 a4 a5 a6 o_lines s_at t_length t_bytes o_kinds o_operands o_ties) H → va_S A s.heap H locs → decode cX3_read pc = .ok (.ireturn, 1) → W p l e rm_X3_read s m args below meth c H locs 0 0 Q (F0 m pc ls [.int v]) := by
    intro H locs pc ls v o_lines s_at o_kinds o_operands o_ties h hP hS hd
    cases h
    exact ret hP hS hd
  have l15 : ∀ (n : Nat), ∀ (x1 : Int32) (o_lines : Int32) (s_at : Int32) (o_kinds : Nat → Int32) (o_operands : Nat → Int32) (o_ties : Nat → Int32) (H : Heap) (locs : List Loc) (ls : Array Slot), f_X3_read_l15  t_length t_bytes  n x1 o_lines s_at o_kinds o_operands o_ties = some o → WP g A (wOText g a0 a1 a2 a3 a4 a5 a6 o_lines s_at t_length t_bytes o_kinds o_operands o_ties) H → va_S A s.heap H locs → lv_has ls 3 [(0, .ref a0), (1, .int x1)] → W p l e rm_X3_read s m args below meth c H locs 0 0 Q (F0 m 15 ls []) := by
    intro  n
    induction n with
    | zero =>
      intro x1 o_lines s_at o_kinds o_operands o_ties H locs ls h
      exact nz_of h
    | succ n ih =>
      intro x1 o_lines s_at o_kinds o_operands o_ties H locs ls h hP hS hl
      rw [f_X3_read_l15] at h
      refine lv_iload_n hx hb dX3_read_15 rfl (lv_at hl 1 rfl) ?_
      refine lv_bipush (v := 60) hx hb dX3_read_16 rfl ?_
      refine lv_icmp_ge (tgt := 99) hx hb dX3_read_18 rfl (fun c18 => ?_) (fun c18 => ?_)
      · have h := br_p c18 h
        refine lv_aload_n hx hb dX3_read_99 rfl (lv_at hl 0 rfl) ?_
        refine gf_X3_26_OText_0 X hP dX3_read_100 ?_
        obtain ⟨o1, hco1, h⟩ := bd_of h
        obtain ⟨hF, hFA⟩ := fo_OText_Scan_1 hP
        refine kVN (rest := []) X dX3_read_103 wd_3_37 mw_X5_skipBlanks wd_2_164 wp_1_11 hF (k0 := 0) rfl rfl rfl hS hFA (c_X5_skipBlanks hco1) rfl hl.1 rfl (Nat.le_of_ble_eq_true rfl) rfl rfl ⟨Nat.le_of_ble_eq_true rfl, Nat.le_of_ble_eq_true rfl⟩ (fun H locs hF1 _ hk hS => ?_)
        have hP := un_OText_Scan_1 hP hk hF1
        refine W.eq (g2 := F0 m 106 ls []) rfl ?_
        refine lv_aload_n hx hb dX3_read_106 rfl (lv_at hl 0 rfl) ?_
        refine gf_X3_26_OText_0 X hP dX3_read_107 ?_
        refine gf_X3_30_OText_1 X hP dX3_read_110 ?_
        exact ret h hP hS dX3_read_113
      · have h := br_n c18 h
        refine lv_aload_n hx hb dX3_read_21 rfl (lv_at hl 0 rfl) ?_
        refine lv_iload_n hx hb dX3_read_22 rfl (lv_at hl 1 rfl) ?_
        obtain ⟨o2, hco2, h⟩ := bd_of h
        refine kV (rest := []) X dX3_read_23 wd_3_33 mw_X3_readLine wd_3_35 wp_2_8 hP (k0 := 0) rfl rfl rfl hS (fun _ z => z) (c_X3_readLine hco2) rfl hl.1 rfl (Nat.le_of_ble_eq_true rfl) rfl rfl ⟨Nat.le_of_ble_eq_true rfl, Nat.le_of_ble_eq_true rfl⟩ (fun H locs hP _ _ hS => ?_)
        refine W.eq (g2 := F0 m 26 ls [.int o2.1]) rfl ?_
        refine lv_istore_n (lv' := [(2, .int o2.1), (0, .ref a0), (1, .int x1)]) hx hb dX3_read_26 rfl hl (by decide) rfl (fun ls hl => ?_)
        refine lv_iload_n hx hb dX3_read_27 rfl (lv_at hl 0 rfl) ?_
        refine lv_iconst (v := (-1)) hx hb dX3_read_28 rfl ?_
        refine lv_icmp_eq (tgt := 34) hx hb dX3_read_29 rfl (fun c29 => ?_) (fun c29 => ?_)
        · have h := br_p c29 h
          refine lv_aload_n hx hb dX3_read_34 rfl (lv_at hl 1 rfl) ?_
          refine lv_iload_n hx hb dX3_read_35 rfl (lv_at hl 2 rfl) ?_
          refine lv_iconst (v := 1) hx hb dX3_read_36 rfl ?_
          refine lv_iadd hx hb dX3_read_37 ?_
          refine lv_topi (fun v3 ev3 => ?_)
          have h := lt_at ev3 h
          refine pf_X3_34_OText_0 (v0 := v3) X hP hS dX3_read_38 (fun H locs hP hS => ?_)
          refine lv_aload_n hx hb dX3_read_41 rfl (lv_at hl 1 rfl) ?_
          refine gf_X3_26_OText_0 X hP dX3_read_42 ?_
          obtain ⟨o4, hco4, h⟩ := bd_of h
          obtain ⟨hF, hFA⟩ := fo_OText_Scan_1 hP
          refine kVN (rest := []) X dX3_read_45 wd_3_37 mw_X5_skipBlanks wd_2_164 wp_1_11 hF (k0 := 0) rfl rfl rfl hS hFA (c_X5_skipBlanks hco4) rfl hl.1 rfl (Nat.le_of_ble_eq_true rfl) rfl rfl ⟨Nat.le_of_ble_eq_true rfl, Nat.le_of_ble_eq_true rfl⟩ (fun H locs hF1 _ hk hS => ?_)
          have hP := un_OText_Scan_1 hP hk hF1
          refine W.eq (g2 := F0 m 48 ls []) rfl ?_
          refine lv_aload_n hx hb dX3_read_48 rfl (lv_at hl 1 rfl) ?_
          refine gf_X3_26_OText_0 X hP dX3_read_49 ?_
          obtain ⟨o5, hco5, h⟩ := bd_of h
          obtain ⟨hF, hFA⟩ := fo_OText_Scan_1 hP
          refine kVN (rest := []) X dX3_read_52 wd_3_57 mw_X5_isAtEnd wd_3_26 wp_2_6 hF (k0 := 0) rfl rfl rfl hS hFA (c_X5_isAtEnd hco5) rfl hl.1 rfl (Nat.le_of_ble_eq_true rfl) rfl rfl ⟨Nat.le_of_ble_eq_true rfl, Nat.le_of_ble_eq_true rfl⟩ (fun H locs hF1 _ hk hS => ?_)
          have hP := un_OText_Scan_1 hP hk hF1
          refine W.eq (g2 := F0 m 55 ls [.int (bI o5)]) rfl ?_
          refine rb_eq (tgt := 60) hx hb dX3_read_55 rfl (fun c55 => ?_) (fun c55 => ?_)
          · have h := br_n c55 h
            refine lv_aload_n hx hb dX3_read_60 rfl (lv_at hl 1 rfl) ?_
            refine gf_X3_26_OText_0 X hP dX3_read_61 ?_
            obtain ⟨o6, hco6, h⟩ := bd_of h
            obtain ⟨hF, hFA⟩ := fo_OText_Scan_1 hP
            refine kVN (rest := []) X dX3_read_64 wd_3_46 mw_X5_here wd_2_168 wp_1_12 hF (k0 := 0) rfl rfl rfl hS hFA (c_X5_here hco6) rfl hl.1 rfl (Nat.le_of_ble_eq_true rfl) rfl rfl ⟨Nat.le_of_ble_eq_true rfl, Nat.le_of_ble_eq_true rfl⟩ (fun H locs hF1 _ hk hS => ?_)
            have hP := un_OText_Scan_1 hP hk hF1
            refine W.eq (g2 := F0 m 67 ls [.int o6]) rfl ?_
            refine lv_bipush (v := 59) hx hb dX3_read_67 rfl ?_
            refine lv_icmp_eq (tgt := 80) hx hb dX3_read_69 rfl (fun c69 => ?_) (fun c69 => ?_)
            · have h := br_p c69 h
              refine lv_aload_n hx hb dX3_read_80 rfl (lv_at hl 1 rfl) ?_
              refine gf_X3_26_OText_0 X hP dX3_read_81 ?_
              refine lv_dup hx hb dX3_read_84 rfl ?_
              refine gf_X3_30_OText_1 X hP dX3_read_85 ?_
              refine lv_iconst (v := 1) hx hb dX3_read_88 rfl ?_
              refine lv_iadd hx hb dX3_read_89 ?_
              refine lv_topi (fun v7 ev7 => ?_)
              have h := lt_at ev7 h
              refine pf_X3_30_OText_1 (v0 := v7) X hP hS dX3_read_90 (fun H locs hP hS => ?_)
              obtain ⟨v8, ev8⟩ : ∃ z : Int32, z = (x1 + 1) := ⟨_, rfl⟩
              have h := lt_at ev8 h
              refine lv_iinc (v := v8) (lv' := [(1, .int v8), (2, .int o2.1), (0, .ref a0)]) hx hb dX3_read_93 hl (k := 2) rfl (by rw [ev8]; rfl) (by decide) rfl (fun ls hl => ?_)
              refine lv_goto (tgt := 15) hx hb dX3_read_96 rfl ?_
              exact ih v8 v3 v7 o2.2.2.1 o2.2.2.2.1 o2.2.2.2.2 _ _ _ h hP hS (lv_sub hl [2, 0] rfl)
            · have h := br_n c69 h
              refine lv_aload_n hx hb dX3_read_72 rfl (lv_at hl 1 rfl) ?_
              refine gf_X3_26_OText_0 X hP dX3_read_73 ?_
              refine gf_X3_30_OText_1 X hP dX3_read_76 ?_
              exact ret h hP hS dX3_read_79
          · have h := br_p c55 h
            refine lv_iconst (v := (-1)) hx hb dX3_read_58 rfl ?_
            exact ret h hP hS dX3_read_59
        · have h := br_n c29 h
          refine lv_iload_n hx hb dX3_read_32 rfl (lv_at hl 0 rfl) ?_
          exact ret h hP hS dX3_read_33
  unfold f_X3_read at h
  refine lv_aload_n hx hb dX3_read_0 rfl (lv_at hl 0 rfl) ?_
  refine gf_X3_26_OText_0 X hP dX3_read_1 ?_
  refine lv_iconst (v := 0) hx hb dX3_read_4 rfl ?_
  refine pf_X3_30_OText_1 (v0 := (0 : Int32)) X hP hS dX3_read_5 (fun H locs hP hS => ?_)
  refine lv_aload_n hx hb dX3_read_8 rfl (lv_at hl 0 rfl) ?_
  refine lv_iconst (v := 0) hx hb dX3_read_9 rfl ?_
  refine pf_X3_34_OText_0 (v0 := (0 : Int32)) X hP hS dX3_read_10 (fun H locs hP hS => ?_)
  refine lv_iconst (v := 0) hx hb dX3_read_13 rfl ?_
  refine lv_istore_n (lv' := [(1, .int 0), (0, .ref a0)]) hx hb dX3_read_14 rfl hl (by decide) rfl (fun ls hl => ?_)
  exact l15  FU (0 : Int32) (0 : Int32) (0 : Int32) o_kinds o_operands o_ties _ _ _ h hP hS (lv_sub hl [1, 0] rfl)
abbrev rm_X3_isTied : Room := { frames := 0, cells := 0, slots := 0, locals := 0 }
set_option maxRecDepth 100000 in
set_option maxHeartbeats 4000000 in
theorem c_X3_isTied {g : gT} {l : Launch} {A : Nat → Prop} {a0 a1 a2 a3 a4 a5 a6 : Nat} {o_lines : Int32} {s_at : Int32} {t_length : Int32} {t_bytes : Nat → Int32} {o_kinds : Nat → Int32} {o_operands : Nat → Int32} {o_ties : Nat → Int32} {p0 : Int32} {o : Bool} (h : f_X3_isTied p0 o_ties = some o) : Std g l yX3_isTied (.code yX3_isTied cX3_isTied 3 (some .boolean) :: gw) rm_X3_isTied A [.ref a0, .int p0] (wOText g a0 a1 a2 a3 a4 a5 a6 o_lines s_at t_length t_bytes o_kinds o_operands o_ties) (wOText g a0 a1 a2 a3 a4 a5 a6 o_lines s_at t_length t_bytes o_kinds o_operands o_ties) (some (.int (bI o))) := by
  refine std_z (own := RX3) (by decide +kernel) rfl (Nat.le_of_ble_eq_true rfl) ?_
  intro p e s m args below meth c Q X ret H locs hP hS ls hl
  have hx := X.1
  have hb := X.2.1
  have hl : lv_has ls 3 [(0, .ref a0), (1, .int p0)] := hl
  have ret : ∀ {H : Heap} {locs : List Loc} {pc : Nat} {ls : Array Slot} {v : Bool} , some (v) = some o → WP g A (wOText g a0 a1 a2 a3 a4 a5 a6 o_lines s_at t_length t_bytes o_kinds o_operands o_ties) H → va_S A s.heap H locs → decode cX3_isTied pc = .ok (.ireturn, 1) → W p l e rm_X3_isTied s m args below meth c H locs 0 0 Q (F0 m pc ls [.int (bI v)]) := by
    intro H locs pc ls v h hP hS hd
    cases h
    exact ret hP hS hd
  have b38 : ∀  (H : Heap) (locs : List Loc) (ls : Array Slot), f_X3_isTied_b38  o_ties   = some o → WP g A (wOText g a0 a1 a2 a3 a4 a5 a6 o_lines s_at t_length t_bytes o_kinds o_operands o_ties) H → va_S A s.heap H locs → lv_has ls 3 [] → W p l e rm_X3_isTied s m args below meth c H locs 0 0 Q (F0 m 38 ls []) := by
    intro   H locs ls h hP hS hl
    unfold f_X3_isTied_b38 at h
    refine lv_iconst (v := 1) hx hb dX3_isTied_38 rfl ?_
    refine lv_goto (tgt := 43) hx hb dX3_isTied_39 rfl ?_
    exact ret h hP hS dX3_isTied_43
  unfold f_X3_isTied at h
  refine lv_iload_n hx hb dX3_isTied_0 rfl (lv_at hl 1 rfl) ?_
  refine lv_iconst (v := 3) hx hb dX3_isTied_1 rfl ?_
  refine lv_imul hx hb dX3_isTied_2 ?_
  refine lv_topi (fun v1 ev1 => ?_)
  have h := lt_at ev1 h
  refine lv_istore_n (lv' := [(2, .int v1), (0, .ref a0), (1, .int p0)]) hx hb dX3_isTied_3 rfl hl (by decide) rfl (fun ls hl => ?_)
  refine lv_aload_n hx hb dX3_isTied_4 rfl (lv_at hl 1 rfl) ?_
  refine gf_X3_18_OText_0 X hP dX3_isTied_5 ?_
  refine lv_iload_n hx hb dX3_isTied_8 rfl (lv_at hl 0 rfl) ?_
  obtain ⟨hi9, h⟩ := gv_of h
  refine al_OText_6 X hP hi9 dX3_isTied_9 ?_
  refine lv_iconst (v := (-1)) hx hb dX3_isTied_10 rfl ?_
  refine lv_icmp_ne (tgt := 38) hx hb dX3_isTied_11 rfl (fun c11 => ?_) (fun c11 => ?_)
  · have h := br_n c11 h
    exact b38    _ _ _ h hP hS (lv_sub hl [] rfl)
  · have h := br_p c11 h
    refine lv_aload_n hx hb dX3_isTied_14 rfl (lv_at hl 1 rfl) ?_
    refine gf_X3_18_OText_0 X hP dX3_isTied_15 ?_
    refine lv_iload_n hx hb dX3_isTied_18 rfl (lv_at hl 0 rfl) ?_
    refine lv_iconst (v := 1) hx hb dX3_isTied_19 rfl ?_
    refine lv_iadd hx hb dX3_isTied_20 ?_
    obtain ⟨hi21, h⟩ := gv_of h
    refine al_OText_6 X hP hi21 dX3_isTied_21 ?_
    refine lv_iconst (v := (-1)) hx hb dX3_isTied_22 rfl ?_
    refine lv_icmp_ne (tgt := 38) hx hb dX3_isTied_23 rfl (fun c23 => ?_) (fun c23 => ?_)
    · have h := br_n c23 h
      exact b38    _ _ _ h hP hS (lv_sub hl [] rfl)
    · have h := br_p c23 h
      refine lv_aload_n hx hb dX3_isTied_26 rfl (lv_at hl 1 rfl) ?_
      refine gf_X3_18_OText_0 X hP dX3_isTied_27 ?_
      refine lv_iload_n hx hb dX3_isTied_30 rfl (lv_at hl 0 rfl) ?_
      refine lv_iconst (v := 2) hx hb dX3_isTied_31 rfl ?_
      refine lv_iadd hx hb dX3_isTied_32 ?_
      obtain ⟨hi33, h⟩ := gv_of h
      refine al_OText_6 X hP hi33 dX3_isTied_33 ?_
      refine lv_iconst (v := (-1)) hx hb dX3_isTied_34 rfl ?_
      refine jx1 h (P := fun (v2 : Bool) => ∀ ls : Array Slot, lv_has ls 3 [] → W p l e rm_X3_isTied s m args below meth c H locs 0 0 Q (F0 m 43 ls [.int (bI v2)])) ?_ ?_
      · intro v2 h ls hl
        exact ret h hP hS dX3_isTied_43
      · intro J h
        refine lv_icmp_eq (tgt := 42) hx hb dX3_isTied_35 rfl (fun c35 => ?_) (fun c35 => ?_)
        · refine lv_iconst (v := 0) hx hb dX3_isTied_42 rfl ?_
          exact J _ (lt_ip c35 h) ls (lv_sub hl [] rfl)
        · refine lv_iconst (v := 1) hx hb dX3_isTied_38 rfl ?_
          refine lv_goto (tgt := 43) hx hb dX3_isTied_39 rfl ?_
          exact J _ (lt_in c35 h) ls (lv_sub hl [] rfl)
abbrev rm_X6_bytesTold : Room := { frames := 0, cells := 0, slots := 0, locals := 0 }
set_option maxRecDepth 100000 in
set_option maxHeartbeats 4000000 in
theorem c_X6_bytesTold {g : gT} {l : Launch} {A : Nat → Prop} {w : va_W} {p0 : Int32} {o : Int32} (h : f_X6_bytesTold p0  = some o) : Std g l yX6_bytesTold (.code yX6_bytesTold cX6_bytesTold 3 (some .int) :: gw) rm_X6_bytesTold A [.int p0] w w (some (.int o)) := by
  refine std_i (own := RX6) (by decide +kernel) rfl (Nat.le_of_ble_eq_true rfl) ?_
  intro p e s m args below meth c Q X ret H locs hP hS ls hl
  have hx := X.1
  have hb := X.2.1
  have hl : lv_has ls 3 [(0, .int p0)] := hl
  have ret : ∀ {H : Heap} {locs : List Loc} {pc : Nat} {ls : Array Slot} {v : Int32} , some (v) = some o → WP g A w H → va_S A s.heap H locs → decode cX6_bytesTold pc = .ok (.ireturn, 1) → W p l e rm_X6_bytesTold s m args below meth c H locs 0 0 Q (F0 m pc ls [.int v]) := by
    intro H locs pc ls v h hP hS hd
    cases h
    exact ret hP hS hd
  have l5 : ∀ (n : Nat), ∀ (x0 : Int32) (x1 : Int32) (x2 : Int32) (H : Heap) (locs : List Loc) (ls : Array Slot), f_X6_bytesTold_l5    n x0 x1 x2 = some o → WP g A w H → va_S A s.heap H locs → lv_has ls 3 [(0, .int x0), (1, .int x1), (2, .int x2)] → W p l e rm_X6_bytesTold s m args below meth c H locs 0 0 Q (F0 m 5 ls []) := by
    intro  n
    induction n with
    | zero =>
      intro x0 x1 x2 H locs ls h
      exact nz_of h
    | succ n ih =>
      intro x0 x1 x2 H locs ls h hP hS hl
      rw [f_X6_bytesTold_l5] at h
      refine lv_iload_n hx hb dX6_bytesTold_5 rfl (lv_at hl 2 rfl) ?_
      refine lv_if_lt (tgt := 33) hx hb dX6_bytesTold_6 rfl (fun c6 => ?_) (fun c6 => ?_)
      · have h := br_p c6 h
        refine lv_iload_n hx hb dX6_bytesTold_33 rfl (lv_at hl 1 rfl) ?_
        exact ret h hP hS dX6_bytesTold_34
      · have h := br_n c6 h
        refine lv_iload_n hx hb dX6_bytesTold_9 rfl (lv_at hl 1 rfl) ?_
        refine lv_iload_n hx hb dX6_bytesTold_10 rfl (lv_at hl 0 rfl) ?_
        refine lv_iload_n hx hb dX6_bytesTold_11 rfl (lv_at hl 2 rfl) ?_
        refine lv_ishr hx hb dX6_bytesTold_12 ?_
        refine lv_sipush (v := 255) hx hb dX6_bytesTold_13 rfl ?_
        refine lv_iand hx hb dX6_bytesTold_16 ?_
        refine jx1 h (P := fun (v1 : Bool) => ∀ ls : Array Slot, lv_has ls 3 [(0, .int x0), (2, .int x2)] → W p l e rm_X6_bytesTold s m args below meth c H locs 0 0 Q (F0 m 25 ls [.int (bI v1), .int x1])) ?_ ?_
        · intro v1 h ls hl
          refine lv_iadd hx hb dX6_bytesTold_25 ?_
          refine lv_topi (fun v2 ev2 => ?_)
          have h := lt_at ev2 h
          refine lv_istore_n (lv' := [(1, .int v2), (0, .int x0), (2, .int x2)]) hx hb dX6_bytesTold_26 rfl hl (by decide) rfl (fun ls hl => ?_)
          obtain ⟨v3, ev3⟩ : ∃ z : Int32, z = (x2 + (-8)) := ⟨_, rfl⟩
          have h := lt_at ev3 h
          refine lv_iinc (v := v3) (lv' := [(2, .int v3), (1, .int v2), (0, .int x0)]) hx hb dX6_bytesTold_27 hl (k := 2) rfl (by rw [ev3]; rfl) (by decide) rfl (fun ls hl => ?_)
          refine lv_goto (tgt := 5) hx hb dX6_bytesTold_30 rfl ?_
          exact ih x0 v2 v3 _ _ _ h hP hS (lv_sub hl [2, 1, 0] rfl)
        · intro J h
          refine lv_if_eq (tgt := 24) hx hb dX6_bytesTold_17 rfl (fun c17 => ?_) (fun c17 => ?_)
          · refine lv_iconst (v := 0) hx hb dX6_bytesTold_24 rfl ?_
            exact J _ (lt_ip c17 h) ls (lv_sub hl [0, 2] rfl)
          · refine lv_iconst (v := 1) hx hb dX6_bytesTold_20 rfl ?_
            refine lv_goto (tgt := 25) hx hb dX6_bytesTold_21 rfl ?_
            exact J _ (lt_in c17 h) ls (lv_sub hl [0, 2] rfl)
  unfold f_X6_bytesTold at h
  refine lv_iconst (v := 0) hx hb dX6_bytesTold_0 rfl ?_
  refine lv_istore_n (lv' := [(1, .int 0), (0, .int p0)]) hx hb dX6_bytesTold_1 rfl hl (by decide) rfl (fun ls hl => ?_)
  refine lv_bipush (v := 24) hx hb dX6_bytesTold_2 rfl ?_
  refine lv_istore_n (lv' := [(2, .int 24), (1, .int 0), (0, .int p0)]) hx hb dX6_bytesTold_4 rfl hl (by decide) rfl (fun ls hl => ?_)
  exact l5  FU p0 (0 : Int32) (24 : Int32) _ _ _ h hP hS (lv_sub hl [2, 1, 0] rfl)
abbrev rm_X6_append : Room := { frames := 0, cells := 0, slots := 0, locals := 0 }
set_option maxRecDepth 100000 in
set_option maxHeartbeats 4000000 in
theorem c_X6_append {g : gT} {l : Launch} {A : Nat → Prop} {a0 a1 : Nat} {t_length : Int32} {t_bytes : Nat → Int32} {p0 : Int32} {o : Int32 × (Nat → Int32)} (h : f_X6_append p0 t_length t_bytes = some o) : Std g l yX6_append (.code yX6_append cX6_append 4 none :: gw) rm_X6_append A [.ref a0, .int p0] (wTape g a0 a1 t_length t_bytes) (wTape g a0 a1 o.1 o.2) none := by
  refine std_v (own := RX6) (by decide +kernel) rfl (Nat.le_of_ble_eq_true rfl) ?_
  intro p e s m args below meth c Q X ret H locs hP hS ls hl
  have hx := X.1
  have hb := X.2.1
  have hl : lv_has ls 4 [(0, .ref a0), (1, .int p0)] := hl
  have ret : ∀ {H : Heap} {locs : List Loc} {pc : Nat} {ls : Array Slot} {t_length : Int32} {t_bytes : Nat → Int32}, some (t_length, t_bytes) = some o → WP g A (wTape g a0 a1 t_length t_bytes) H → va_S A s.heap H locs → decode cX6_append pc = .ok (.return_, 1) → W p l e rm_X6_append s m args below meth c H locs 0 0 Q (F0 m pc ls []) := by
    intro H locs pc ls t_length t_bytes h hP hS hd
    cases h
    exact ret hP hS hd
  have b49 : ∀ (k3 : Int32 → Int32 → Int32 → (Nat → Int32) → Option (Int32 × (Nat → Int32))) (hk3 : ∀ (x1 : Int32) (x2 : Int32) (t_length : Int32) (t_bytes : Nat → Int32) (H : Heap) (locs : List Loc) (ls : Array Slot), k3 x1 x2 t_length t_bytes = some o → WP g A (wTape g a0 a1 t_length t_bytes) H → va_S A s.heap H locs → lv_has ls 4 [(0, .ref a0), (1, .int x1), (2, .int x2)] → W p l e rm_X6_append s m args below meth c H locs 0 0 Q (F0 m 3 ls [])) , ∀ (x1 : Int32) (x2 : Int32) (t_length : Int32) (t_bytes : Nat → Int32) (H : Heap) (locs : List Loc) (ls : Array Slot), f_X6_append_b49   k3 x1 x2 t_length t_bytes = some o → WP g A (wTape g a0 a1 t_length t_bytes) H → va_S A s.heap H locs → lv_has ls 4 [(0, .ref a0), (1, .int x1), (2, .int x2)] → W p l e rm_X6_append s m args below meth c H locs 0 0 Q (F0 m 49 ls []) := by
    intro k3 hk3 x1 x2 t_length t_bytes H locs ls h hP hS hl
    unfold f_X6_append_b49 at h
    obtain ⟨v2, ev2⟩ : ∃ z : Int32, z = (x2 + (-8)) := ⟨_, rfl⟩
    have h := lt_at ev2 h
    refine lv_iinc (v := v2) (lv' := [(2, .int v2), (0, .ref a0), (1, .int x1)]) hx hb dX6_append_49 hl (k := 2) rfl (by rw [ev2]; rfl) (by decide) rfl (fun ls hl => ?_)
    refine lv_goto (tgt := 3) hx hb dX6_append_52 rfl ?_
    exact hk3 x1 v2 t_length t_bytes _ _ _ h hP hS (lv_sub hl [1, 2, 0] rfl)
  have l3 : ∀ (n : Nat), ∀ (x1 : Int32) (x2 : Int32) (t_length : Int32) (t_bytes : Nat → Int32) (H : Heap) (locs : List Loc) (ls : Array Slot), f_X6_append_l3    n x1 x2 t_length t_bytes = some o → WP g A (wTape g a0 a1 t_length t_bytes) H → va_S A s.heap H locs → lv_has ls 4 [(0, .ref a0), (1, .int x1), (2, .int x2)] → W p l e rm_X6_append s m args below meth c H locs 0 0 Q (F0 m 3 ls []) := by
    intro  n
    induction n with
    | zero =>
      intro x1 x2 t_length t_bytes H locs ls h
      exact nz_of h
    | succ n ih =>
      intro x1 x2 t_length t_bytes H locs ls h hP hS hl
      rw [f_X6_append_l3] at h
      refine lv_iload_n hx hb dX6_append_3 rfl (lv_at hl 2 rfl) ?_
      refine lv_if_lt (tgt := 55) hx hb dX6_append_4 rfl (fun c4 => ?_) (fun c4 => ?_)
      · have h := br_p c4 h
        exact ret h hP hS dX6_append_55
      · have h := br_n c4 h
        refine lv_iload_n hx hb dX6_append_7 rfl (lv_at hl 1 rfl) ?_
        refine lv_iload_n hx hb dX6_append_8 rfl (lv_at hl 2 rfl) ?_
        refine lv_ishr hx hb dX6_append_9 ?_
        refine lv_sipush (v := 255) hx hb dX6_append_10 rfl ?_
        refine lv_iand hx hb dX6_append_13 ?_
        refine lv_topi (fun v1 ev1 => ?_)
        have h := lt_at ev1 h
        refine lv_istore_n (lv' := [(3, .int v1), (0, .ref a0), (1, .int x1), (2, .int x2)]) hx hb dX6_append_14 rfl hl (by decide) rfl (fun ls hl => ?_)
        refine lv_iload_n hx hb dX6_append_15 rfl (lv_at hl 0 rfl) ?_
        refine lv_if_eq (tgt := 49) hx hb dX6_append_16 rfl (fun c16 => ?_) (fun c16 => ?_)
        · have h := br_p c16 h
          exact b49 (f_X6_append_l3    n) ih  x1 x2 t_length t_bytes _ _ _ h hP hS (lv_sub hl [1, 2, 3] rfl)
        · have h := br_n c16 h
          refine lv_aload_n hx hb dX6_append_19 rfl (lv_at hl 1 rfl) ?_
          refine gf_X6_15_Tape_0 X hP dX6_append_20 ?_
          refine lv_sipush (v := 400) hx hb dX6_append_23 rfl ?_
          refine lv_icmp_ge (tgt := 49) hx hb dX6_append_26 rfl (fun c26 => ?_) (fun c26 => ?_)
          · have h := br_p c26 h
            exact b49 (f_X6_append_l3    n) ih  x1 x2 t_length t_bytes _ _ _ h hP hS (lv_sub hl [1, 2, 3] rfl)
          · have h := br_n c26 h
            refine lv_aload_n hx hb dX6_append_29 rfl (lv_at hl 1 rfl) ?_
            refine gf_X6_9_Tape_0 X hP dX6_append_30 ?_
            refine lv_aload_n hx hb dX6_append_33 rfl (lv_at hl 1 rfl) ?_
            refine gf_X6_15_Tape_0 X hP dX6_append_34 ?_
            refine lv_iload_n hx hb dX6_append_37 rfl (lv_at hl 0 rfl) ?_
            obtain ⟨hi38, h⟩ := gv_of h
            refine as_Tape_1 (v0 := v1) X hP hS hi38 dX6_append_38 (fun H locs hP hS => ?_)
            refine lv_aload_n hx hb dX6_append_39 rfl (lv_at hl 1 rfl) ?_
            refine lv_dup hx hb dX6_append_40 rfl ?_
            refine gf_X6_15_Tape_0 X hP dX6_append_41 ?_
            refine lv_iconst (v := 1) hx hb dX6_append_44 rfl ?_
            refine lv_iadd hx hb dX6_append_45 ?_
            refine lv_topi (fun v3 ev3 => ?_)
            have h := lt_at ev3 h
            refine pf_X6_15_Tape_0 (v0 := v3) X hP hS dX6_append_46 (fun H locs hP hS => ?_)
            exact b49 (f_X6_append_l3    n) ih  x1 x2 v3 (upd t_bytes (t_length).toNatClampNeg v1) _ _ _ h hP hS (lv_sub hl [1, 2, 3] rfl)
  unfold f_X6_append at h
  refine lv_bipush (v := 24) hx hb dX6_append_0 rfl ?_
  refine lv_istore_n (lv' := [(2, .int 24), (0, .ref a0), (1, .int p0)]) hx hb dX6_append_2 rfl hl (by decide) rfl (fun ls hl => ?_)
  exact l3  FU p0 (24 : Int32) t_length t_bytes _ _ _ h hP hS (lv_sub hl [1, 2, 0] rfl)
abbrev rm_X8_ofOneOver : Room := { frames := 0, cells := 0, slots := 0, locals := 0 }
set_option maxRecDepth 100000 in
set_option maxHeartbeats 4000000 in
theorem c_X8_ofOneOver {g : gT} {l : Launch} {A : Nat → Prop} {w : va_W} {p0 : Int32} {p1 : Bool} {o : Int64} (h : f_X8_ofOneOver p0 p1  = some o) : Std g l yX8_ofOneOver (.code yX8_ofOneOver cX8_ofOneOver 9 (some .long) :: gw) rm_X8_ofOneOver A [.int p0, .int (bI p1)] w w (some (.long o)) := by
  refine std_l (own := RX8) (by decide +kernel) rfl (Nat.le_of_ble_eq_true rfl) ?_
  intro p e s m args below meth c Q X ret H locs hP hS ls hl
  have hx := X.1
  have hb := X.2.1
  have hl : lv_has ls 9 [(0, .int p0), (1, .int (bI p1))] := hl
  have ret : ∀ {H : Heap} {locs : List Loc} {pc : Nat} {ls : Array Slot} {v : Int64} , some (v) = some o → WP g A w H → va_S A s.heap H locs → decode cX8_ofOneOver pc = .ok (.lreturn, 1) → W p l e rm_X8_ofOneOver s m args below meth c H locs 0 0 Q (F0 m pc ls [.long v]) := by
    intro H locs pc ls v h hP hS hd
    cases h
    exact ret hP hS hd
  have b81 : ∀ (x2 : Int64) (H : Heap) (locs : List Loc) (ls : Array Slot), f_X8_ofOneOver_b81    x2 = some o → WP g A w H → va_S A s.heap H locs → lv_has ls 9 [(2, .long x2)] → W p l e rm_X8_ofOneOver s m args below meth c H locs 0 0 Q (F0 m 81 ls []) := by
    intro  x2 H locs ls h hP hS hl
    unfold f_X8_ofOneOver_b81 at h
    refine lv_lload_n hx hb dX8_ofOneOver_81 rfl (lv_at hl 0 rfl) ?_
    exact ret h hP hS dX8_ofOneOver_82
  have l20 : ∀ (n : Nat), ∀ (x0 : Int32) (x1 : Bool) (x2 : Int64) (x4 : Int64) (x6 : Int32) (H : Heap) (locs : List Loc) (ls : Array Slot), f_X8_ofOneOver_l20    n x0 x1 x2 x4 x6 = some o → WP g A w H → va_S A s.heap H locs → lv_has ls 9 [(0, .int x0), (1, .int (bI x1)), (2, .long x2), (4, .long x4), (6, .int x6)] → W p l e rm_X8_ofOneOver s m args below meth c H locs 0 0 Q (F0 m 20 ls []) := by
    intro  n
    induction n with
    | zero =>
      intro x0 x1 x2 x4 x6 H locs ls h
      exact nz_of h
    | succ n ih =>
      intro x0 x1 x2 x4 x6 H locs ls h hP hS hl
      rw [f_X8_ofOneOver_l20] at h
      refine lv_iload hx hb dX8_ofOneOver_20 (lv_at hl 4 rfl) ?_
      refine lv_sipush (v := 128) hx hb dX8_ofOneOver_22 rfl ?_
      refine lv_icmp_ge (tgt := 81) hx hb dX8_ofOneOver_25 rfl (fun c25 => ?_) (fun c25 => ?_)
      · have h := br_p c25 h
        exact b81   x2 _ _ _ h hP hS (lv_sub hl [2] rfl)
      · have h := br_n c25 h
        refine lv_lload hx hb dX8_ofOneOver_28 (lv_at hl 3 rfl) ?_
        refine lv_lconst (v := 0) hx hb dX8_ofOneOver_30 rfl ?_
        refine rl_le (tgt := 81) hx hb dX8_ofOneOver_31 dX8_ofOneOver_32 rfl (fun c31 => ?_) (fun c31 => ?_)
        · have h := br_p c31 h
          exact b81   x2 _ _ _ h hP hS (lv_sub hl [2] rfl)
        · have h := br_n c31 h
          refine lv_lload hx hb dX8_ofOneOver_35 (lv_at hl 3 rfl) ?_
          refine lv_iload hx hb dX8_ofOneOver_37 (lv_at hl 4 rfl) ?_
          refine lv_i2l hx hb dX8_ofOneOver_39 rfl ?_
          obtain ⟨cz40, h⟩ := gz_of h
          refine lv_ldiv hx hb dX8_ofOneOver_40 cz40 ?_
          refine lv_topl (fun v2 ev2 => ?_)
          have h := lt_at ev2 h
          refine lv_lstore (lv' := [(7, .long v2), (0, .int x0), (1, .int (bI x1)), (2, .long x2), (4, .long x4), (6, .int x6)]) hx hb dX8_ofOneOver_41 hl (by decide) rfl (fun ls hl => ?_)
          refine lv_lload_n hx hb dX8_ofOneOver_43 rfl (lv_at hl 3 rfl) ?_
          refine lv_iload_n hx hb dX8_ofOneOver_44 rfl (lv_at hl 2 rfl) ?_
          refine jx1 h (P := fun (v3 : Int64) => ∀ ls : Array Slot, lv_has ls 9 [(0, .int x0), (1, .int (bI x1)), (4, .long x4), (6, .int x6)] → W p l e rm_X8_ofOneOver s m args below meth c H locs 0 0 Q (F0 m 63 ls [.long v3, .long x2])) ?_ ?_
          · intro v3 h ls hl
            refine lv_ladd hx hb dX8_ofOneOver_63 ?_
            refine lv_topl (fun v4 ev4 => ?_)
            have h := lt_at ev4 h
            refine lv_lstore_n (lv' := [(2, .long v4), (0, .int x0), (1, .int (bI x1)), (4, .long x4), (6, .int x6)]) hx hb dX8_ofOneOver_64 rfl hl (by decide) rfl (fun ls hl => ?_)
            refine lv_lload hx hb dX8_ofOneOver_65 (lv_at hl 3 rfl) ?_
            refine lv_iload_n hx hb dX8_ofOneOver_67 rfl (lv_at hl 1 rfl) ?_
            refine lv_i2l hx hb dX8_ofOneOver_68 rfl ?_
            refine lv_iload_n hx hb dX8_ofOneOver_69 rfl (lv_at hl 1 rfl) ?_
            refine lv_i2l hx hb dX8_ofOneOver_70 rfl ?_
            refine lv_lmul hx hb dX8_ofOneOver_71 ?_
            obtain ⟨cz72, h⟩ := gz_of h
            refine lv_ldiv hx hb dX8_ofOneOver_72 cz72 ?_
            refine lv_topl (fun v5 ev5 => ?_)
            have h := lt_at ev5 h
            refine lv_lstore (lv' := [(4, .long v5), (2, .long v4), (0, .int x0), (1, .int (bI x1)), (6, .int x6)]) hx hb dX8_ofOneOver_73 hl (by decide) rfl (fun ls hl => ?_)
            obtain ⟨v6, ev6⟩ : ∃ z : Int32, z = (x6 + 2) := ⟨_, rfl⟩
            have h := lt_at ev6 h
            refine lv_iinc (v := v6) (lv' := [(6, .int v6), (4, .long v5), (2, .long v4), (0, .int x0), (1, .int (bI x1))]) hx hb dX8_ofOneOver_75 hl (k := 4) rfl (by rw [ev6]; rfl) (by decide) rfl (fun ls hl => ?_)
            refine lv_goto (tgt := 20) hx hb dX8_ofOneOver_78 rfl ?_
            exact ih x0 x1 v4 v5 v6 _ _ _ h hP hS (lv_sub hl [3, 4, 2, 1, 0] rfl)
          · intro J h
            refine rb_eq (tgt := 61) hx hb dX8_ofOneOver_45 rfl (fun c45 => ?_) (fun c45 => ?_)
            · refine lv_lload hx hb dX8_ofOneOver_61 (lv_at hl 0 rfl) ?_
              exact J _ (lt_in c45 h) ls (lv_sub hl [1, 2, 4, 5] rfl)
            · refine lv_iload hx hb dX8_ofOneOver_48 (lv_at hl 5 rfl) ?_
              refine lv_iconst (v := 2) hx hb dX8_ofOneOver_50 rfl ?_
              refine lv_iand hx hb dX8_ofOneOver_51 ?_
              refine lv_if_eq (tgt := 61) hx hb dX8_ofOneOver_52 rfl (fun c52 => ?_) (fun c52 => ?_)
              · refine lv_lload hx hb dX8_ofOneOver_61 (lv_at hl 0 rfl) ?_
                exact J _ (lt_ip c52 (lt_ip c45 h)) ls (lv_sub hl [1, 2, 4, 5] rfl)
              · refine lv_lload hx hb dX8_ofOneOver_55 (lv_at hl 0 rfl) ?_
                refine lv_lneg hx hb dX8_ofOneOver_57 ?_
                refine lv_goto (tgt := 63) hx hb dX8_ofOneOver_58 rfl ?_
                exact J _ (lt_in c52 (lt_ip c45 h)) ls (lv_sub hl [1, 2, 4, 5] rfl)
  unfold f_X8_ofOneOver at h
  refine lv_iload_n hx hb dX8_ofOneOver_0 rfl (lv_at hl 0 rfl) ?_
  refine lv_iconst (v := 2) hx hb dX8_ofOneOver_1 rfl ?_
  refine lv_icmp_ge (tgt := 7) hx hb dX8_ofOneOver_2 rfl (fun c2 => ?_) (fun c2 => ?_)
  · have h := br_p c2 h
    refine lv_lconst (v := 0) hx hb dX8_ofOneOver_7 rfl ?_
    refine lv_lstore_n (lv' := [(2, .long (0 : Int64)), (0, .int p0), (1, .int (bI p1))]) hx hb dX8_ofOneOver_8 rfl hl (by decide) rfl (fun ls hl => ?_)
    refine lv_ldc2 (v := 72057594037927936) hx hb X.2.2.2.1 (X.2.2.2.2.1 _ wd_2_7) dX8_ofOneOver_9 ?_
    refine lv_iload_n hx hb dX8_ofOneOver_12 rfl (lv_at hl 1 rfl) ?_
    refine lv_i2l hx hb dX8_ofOneOver_13 rfl ?_
    obtain ⟨cz14, h⟩ := gz_of h
    refine lv_ldiv hx hb dX8_ofOneOver_14 cz14 ?_
    refine lv_topl (fun v1 ev1 => ?_)
    have h := lt_at ev1 h
    refine lv_lstore (lv' := [(4, .long v1), (2, .long (0 : Int64)), (0, .int p0), (1, .int (bI p1))]) hx hb dX8_ofOneOver_15 hl (by decide) rfl (fun ls hl => ?_)
    refine lv_iconst (v := 1) hx hb dX8_ofOneOver_17 rfl ?_
    refine lv_istore (lv' := [(6, .int 1), (4, .long v1), (2, .long (0 : Int64)), (0, .int p0), (1, .int (bI p1))]) hx hb dX8_ofOneOver_18 hl (by decide) rfl (fun ls hl => ?_)
    exact l20  FU p0 p1 (0 : Int64) v1 (1 : Int32) _ _ _ h hP hS (lv_sub hl [3, 4, 2, 1, 0] rfl)
  · have h := br_n c2 h
    refine lv_lconst (v := 0) hx hb dX8_ofOneOver_5 rfl ?_
    exact ret h hP hS dX8_ofOneOver_6
abbrev rm_X8_eighthTurn : Room := { frames := 1, cells := 0, slots := 0, locals := 28 }
set_option maxRecDepth 100000 in
set_option maxHeartbeats 4000000 in
theorem c_X8_eighthTurn {g : gT} {l : Launch} {A : Nat → Prop} {w : va_W}  {o : Int64} (h : f_X8_eighthTurn   = some o) : Std g l yX8_eighthTurn (.code yX8_eighthTurn cX8_eighthTurn 0 (some .long) :: gw) rm_X8_eighthTurn A [] w w (some (.long o)) := by
  refine std_l (own := RX8) (by decide +kernel) rfl (Nat.le_of_ble_eq_true rfl) ?_
  intro p e s m args below meth c Q X ret H locs hP hS ls hl
  have hx := X.1
  have hb := X.2.1
  have hl : lv_has ls 0 [] := hl
  have ret : ∀ {H : Heap} {locs : List Loc} {pc : Nat} {ls : Array Slot} {v : Int64} , some (v) = some o → WP g A w H → va_S A s.heap H locs → decode cX8_eighthTurn pc = .ok (.lreturn, 1) → W p l e rm_X8_eighthTurn s m args below meth c H locs 0 0 Q (F0 m pc ls [.long v]) := by
    intro H locs pc ls v h hP hS hd
    cases h
    exact ret hP hS hd
  unfold f_X8_eighthTurn at h
  refine lv_ldc2 (v := 4) hx hb X.2.2.2.1 (X.2.2.2.2.1 _ wd_2_3) dX8_eighthTurn_0 ?_
  refine lv_iconst (v := 5) hx hb dX8_eighthTurn_3 rfl ?_
  refine lv_iconst (v := 1) hx hb dX8_eighthTurn_4 rfl ?_
  obtain ⟨o1, hco1, h⟩ := bd_of h
  refine kS (rest := [.long (4 : Int64)]) X dX8_eighthTurn_5 wd_2_4 mw_X8_ofOneOver wd_2_5 hP hS (fun _ z => z) (c_X8_ofOneOver hco1) rfl hl.1 rfl (Nat.le_of_ble_eq_true rfl) rfl rfl ⟨Nat.le_of_ble_eq_true rfl, Nat.le_of_ble_eq_true rfl⟩ (fun H locs hP _ _ hS => ?_)
  refine W.eq (g2 := F0 m 8 ls [.long o1, .long (4 : Int64)]) rfl ?_
  refine lv_lmul hx hb dX8_eighthTurn_8 ?_
  refine lv_sipush (v := 239) hx hb dX8_eighthTurn_9 rfl ?_
  refine lv_iconst (v := 1) hx hb dX8_eighthTurn_12 rfl ?_
  obtain ⟨o2, hco2, h⟩ := bd_of h
  refine kS (rest := [.long ((4 : Int64) * o1)]) X dX8_eighthTurn_13 wd_2_4 mw_X8_ofOneOver wd_2_5 hP hS (fun _ z => z) (c_X8_ofOneOver hco2) rfl hl.1 rfl (Nat.le_of_ble_eq_true rfl) rfl rfl ⟨Nat.le_of_ble_eq_true rfl, Nat.le_of_ble_eq_true rfl⟩ (fun H locs hP _ _ hS => ?_)
  refine W.eq (g2 := F0 m 16 ls [.long o2, .long ((4 : Int64) * o1)]) rfl ?_
  refine lv_lsub hx hb dX8_eighthTurn_16 ?_
  exact ret h hP hS dX8_eighthTurn_17
abbrev rm_X8_rounded : Room := { frames := 0, cells := 0, slots := 0, locals := 0 }
set_option maxRecDepth 100000 in
set_option maxHeartbeats 4000000 in
theorem c_X8_rounded {g : gT} {l : Launch} {A : Nat → Prop} {a0 a1 a2 a3 a4 a5 : Nat} {u_width : Int32} {u_guard : Int32} {u_bits : Int32} {u_stages : Int32} {u_places : Int32} {u_near : Bool} {u_quarter : Int64} {u_eighth : Int64} {u_ln : Int64} {u_shifts : Nat → Int32} {u_angles : Nat → Int64} {u_gains : Nat → Int64} {u_undos : Nat → Int64} {u_digits : Nat → Int32} {p0 : Int64} {o : Int64} (h : f_X8_rounded p0 u_bits = some o) : Std g l yX8_rounded (.code yX8_rounded cX8_rounded 3 (some .long) :: gw) rm_X8_rounded A [.ref a0, .long p0] (wUnit g a0 a1 a2 a3 a4 a5 u_width u_guard u_bits u_stages u_places u_near u_quarter u_eighth u_ln u_shifts u_angles u_gains u_undos u_digits) (wUnit g a0 a1 a2 a3 a4 a5 u_width u_guard u_bits u_stages u_places u_near u_quarter u_eighth u_ln u_shifts u_angles u_gains u_undos u_digits) (some (.long o)) := by
  refine std_l (own := RX8) (by decide +kernel) rfl (Nat.le_of_ble_eq_true rfl) ?_
  intro p e s m args below meth c Q X ret H locs hP hS ls hl
  have hx := X.1
  have hb := X.2.1
  have hl : lv_has ls 3 [(0, .ref a0), (1, .long p0)] := hl
  have ret : ∀ {H : Heap} {locs : List Loc} {pc : Nat} {ls : Array Slot} {v : Int64} , some (v) = some o → WP g A (wUnit g a0 a1 a2 a3 a4 a5 u_width u_guard u_bits u_stages u_places u_near u_quarter u_eighth u_ln u_shifts u_angles u_gains u_undos u_digits) H → va_S A s.heap H locs → decode cX8_rounded pc = .ok (.lreturn, 1) → W p l e rm_X8_rounded s m args below meth c H locs 0 0 Q (F0 m pc ls [.long v]) := by
    intro H locs pc ls v h hP hS hd
    cases h
    exact ret hP hS hd
  unfold f_X8_rounded at h
  refine lv_lload_n hx hb dX8_rounded_0 rfl (lv_at hl 1 rfl) ?_
  refine lv_lconst (v := 1) hx hb dX8_rounded_1 rfl ?_
  refine lv_bipush (v := 55) hx hb dX8_rounded_2 rfl ?_
  refine lv_aload_n hx hb dX8_rounded_4 rfl (lv_at hl 0 rfl) ?_
  refine gf_X8_45_Unit_0 X hP dX8_rounded_5 ?_
  refine lv_isub hx hb dX8_rounded_8 ?_
  refine lv_lshl hx hb dX8_rounded_9 rfl ?_
  refine lv_ladd hx hb dX8_rounded_10 ?_
  refine lv_bipush (v := 56) hx hb dX8_rounded_11 rfl ?_
  refine lv_aload_n hx hb dX8_rounded_13 rfl (lv_at hl 0 rfl) ?_
  refine gf_X8_45_Unit_0 X hP dX8_rounded_14 ?_
  refine lv_isub hx hb dX8_rounded_17 ?_
  refine lv_lshr hx hb dX8_rounded_18 rfl ?_
  exact ret h hP hS dX8_rounded_19
abbrev rm_X8_fillShifts : Room := { frames := 0, cells := 0, slots := 0, locals := 0 }
set_option maxRecDepth 100000 in
set_option maxHeartbeats 4000000 in
theorem c_X8_fillShifts {g : gT} {l : Launch} {A : Nat → Prop} {a0 a1 a2 a3 a4 a5 : Nat} {u_width : Int32} {u_guard : Int32} {u_bits : Int32} {u_stages : Int32} {u_places : Int32} {u_near : Bool} {u_quarter : Int64} {u_eighth : Int64} {u_ln : Int64} {u_shifts : Nat → Int32} {u_angles : Nat → Int64} {u_gains : Nat → Int64} {u_undos : Nat → Int64} {u_digits : Nat → Int32} {p0 : Int32} {o : (Nat → Int32)} (h : f_X8_fillShifts p0 u_shifts = some o) : Std g l yX8_fillShifts (.code yX8_fillShifts cX8_fillShifts 5 none :: gw) rm_X8_fillShifts A [.ref a0, .int p0] (wUnit g a0 a1 a2 a3 a4 a5 u_width u_guard u_bits u_stages u_places u_near u_quarter u_eighth u_ln u_shifts u_angles u_gains u_undos u_digits) (wUnit g a0 a1 a2 a3 a4 a5 u_width u_guard u_bits u_stages u_places u_near u_quarter u_eighth u_ln o u_angles u_gains u_undos u_digits) none := by
  refine std_v (own := RX8) (by decide +kernel) rfl (Nat.le_of_ble_eq_true rfl) ?_
  intro p e s m args below meth c Q X ret H locs hP hS ls hl
  have hx := X.1
  have hb := X.2.1
  have hl : lv_has ls 5 [(0, .ref a0), (1, .int p0)] := hl
  have ret : ∀ {H : Heap} {locs : List Loc} {pc : Nat} {ls : Array Slot} {u_shifts : Nat → Int32}, some (u_shifts) = some o → WP g A (wUnit g a0 a1 a2 a3 a4 a5 u_width u_guard u_bits u_stages u_places u_near u_quarter u_eighth u_ln u_shifts u_angles u_gains u_undos u_digits) H → va_S A s.heap H locs → decode cX8_fillShifts pc = .ok (.return_, 1) → W p l e rm_X8_fillShifts s m args below meth c H locs 0 0 Q (F0 m pc ls []) := by
    intro H locs pc ls u_shifts h hP hS hd
    cases h
    exact ret hP hS hd
  have l16 : ∀ (n : Nat), ∀ (x1 : Int32) (x2 : Int32) (x3 : Bool) (x4 : Int32) (u_shifts : Nat → Int32) (H : Heap) (locs : List Loc) (ls : Array Slot), f_X8_fillShifts_l16    n x1 x2 x3 x4 u_shifts = some o → WP g A (wUnit g a0 a1 a2 a3 a4 a5 u_width u_guard u_bits u_stages u_places u_near u_quarter u_eighth u_ln u_shifts u_angles u_gains u_undos u_digits) H → va_S A s.heap H locs → lv_has ls 5 [(0, .ref a0), (1, .int x1), (2, .int x2), (3, .int (bI x3)), (4, .int x4)] → W p l e rm_X8_fillShifts s m args below meth c H locs 0 0 Q (F0 m 16 ls []) := by
    intro  n
    induction n with
    | zero =>
      intro x1 x2 x3 x4 u_shifts H locs ls h
      exact nz_of h
    | succ n ih =>
      intro x1 x2 x3 x4 u_shifts H locs ls h hP hS hl
      rw [f_X8_fillShifts_l16] at h
      refine lv_iload hx hb dX8_fillShifts_16 (lv_at hl 4 rfl) ?_
      refine lv_bipush (v := 24) hx hb dX8_fillShifts_18 rfl ?_
      refine lv_icmp_ge (tgt := 80) hx hb dX8_fillShifts_20 rfl (fun c20 => ?_) (fun c20 => ?_)
      · have h := br_p c20 h
        exact ret h hP hS dX8_fillShifts_80
      · have h := br_n c20 h
        refine lv_aload_n hx hb dX8_fillShifts_23 rfl (lv_at hl 0 rfl) ?_
        refine gf_X8_9_Unit_0 X hP dX8_fillShifts_24 ?_
        refine lv_iload_n hx hb dX8_fillShifts_27 rfl (lv_at hl 1 rfl) ?_
        refine lv_bipush (v := 24) hx hb dX8_fillShifts_28 rfl ?_
        refine lv_imul hx hb dX8_fillShifts_30 ?_
        refine lv_iload hx hb dX8_fillShifts_31 (lv_at hl 4 rfl) ?_
        refine lv_iadd hx hb dX8_fillShifts_33 ?_
        refine lv_iload_n hx hb dX8_fillShifts_34 rfl (lv_at hl 2 rfl) ?_
        obtain ⟨hi35, h⟩ := gv_of h
        refine as_Unit_1 (v0 := x2) X hP hS hi35 dX8_fillShifts_35 (fun H locs hP hS => ?_)
        refine lv_iload_n hx hb dX8_fillShifts_36 rfl (lv_at hl 1 rfl) ?_
        refine lv_iconst (v := 2) hx hb dX8_fillShifts_37 rfl ?_
        refine jx1 h (P := fun (v2 : Bool) => ∀ ls : Array Slot, lv_has ls 5 [(0, .ref a0), (1, .int x1), (2, .int x2), (4, .int x4)] → W p l e rm_X8_fillShifts s m args below meth c H locs 0 0 Q (F0 m 61 ls [.int (bI v2)])) ?_ ?_
        · intro v2 h ls hl
          refine lv_istore_n (lv' := [(3, .int (bI v2)), (0, .ref a0), (1, .int x1), (2, .int x2), (4, .int x4)]) hx hb dX8_fillShifts_61 rfl hl (by decide) rfl (fun ls hl => ?_)
          refine lv_iload_n hx hb dX8_fillShifts_62 rfl (lv_at hl 3 rfl) ?_
          refine lv_iload_n hx hb dX8_fillShifts_63 rfl (lv_at hl 0 rfl) ?_
          refine jx1 h (P := fun (v3 : Bool) => ∀ ls : Array Slot, lv_has ls 5 [(0, .ref a0), (1, .int x1), (3, .int (bI v2)), (4, .int x4)] → W p l e rm_X8_fillShifts s m args below meth c H locs 0 0 Q (F0 m 72 ls [.int (bI v3), .int x2])) ?_ ?_
          · intro v3 h ls hl
            refine lv_iadd hx hb dX8_fillShifts_72 ?_
            refine lv_topi (fun v4 ev4 => ?_)
            have h := lt_at ev4 h
            refine lv_istore_n (lv' := [(2, .int v4), (0, .ref a0), (1, .int x1), (3, .int (bI v2)), (4, .int x4)]) hx hb dX8_fillShifts_73 rfl hl (by decide) rfl (fun ls hl => ?_)
            obtain ⟨v5, ev5⟩ : ∃ z : Int32, z = (x4 + 1) := ⟨_, rfl⟩
            have h := lt_at ev5 h
            refine lv_iinc (v := v5) (lv' := [(4, .int v5), (2, .int v4), (0, .ref a0), (1, .int x1), (3, .int (bI v2))]) hx hb dX8_fillShifts_74 hl (k := 4) rfl (by rw [ev5]; rfl) (by decide) rfl (fun ls hl => ?_)
            refine lv_goto (tgt := 16) hx hb dX8_fillShifts_77 rfl ?_
            exact ih x1 v4 v2 v5 (upd u_shifts (((x1 * (24 : Int32)) + x4)).toNatClampNeg x2) _ _ _ h hP hS (lv_sub hl [2, 3, 1, 4, 0] rfl)
          · intro J h
            refine rb_eq (tgt := 71) hx hb dX8_fillShifts_64 rfl (fun c64 => ?_) (fun c64 => ?_)
            · refine lv_iconst (v := 1) hx hb dX8_fillShifts_71 rfl ?_
              exact J _ (lt_in c64 h) ls (lv_sub hl [1, 2, 0, 4] rfl)
            · refine lv_iconst (v := 0) hx hb dX8_fillShifts_67 rfl ?_
              refine lv_goto (tgt := 72) hx hb dX8_fillShifts_68 rfl ?_
              exact J _ (lt_ip c64 h) ls (lv_sub hl [1, 2, 0, 4] rfl)
        · intro J h
          refine lv_icmp_ne (tgt := 60) hx hb dX8_fillShifts_38 rfl (fun c38 => ?_) (fun c38 => ?_)
          · refine lv_iconst (v := 0) hx hb dX8_fillShifts_60 rfl ?_
            exact J _ (lt_in c38 h) ls (lv_sub hl [0, 1, 2, 4] rfl)
          · refine lv_iload_n hx hb dX8_fillShifts_41 rfl (lv_at hl 2 rfl) ?_
            refine lv_iconst (v := 4) hx hb dX8_fillShifts_42 rfl ?_
            refine lv_icmp_eq (tgt := 52) hx hb dX8_fillShifts_43 rfl (fun c43 => ?_) (fun c43 => ?_)
            · refine lv_iload_n hx hb dX8_fillShifts_52 rfl (lv_at hl 3 rfl) ?_
              refine rb_ne (tgt := 60) hx hb dX8_fillShifts_53 rfl (fun c53 => ?_) (fun c53 => ?_)
              · refine lv_iconst (v := 0) hx hb dX8_fillShifts_60 rfl ?_
                exact J _ (lt_ip c53 (lt_ip c43 (lt_ip c38 h))) ls (lv_sub hl [0, 1, 2, 4] rfl)
              · refine lv_iconst (v := 1) hx hb dX8_fillShifts_56 rfl ?_
                refine lv_goto (tgt := 61) hx hb dX8_fillShifts_57 rfl ?_
                exact J _ (lt_in c53 (lt_ip c43 (lt_ip c38 h))) ls (lv_sub hl [0, 1, 2, 4] rfl)
            · refine lv_iload_n hx hb dX8_fillShifts_46 rfl (lv_at hl 2 rfl) ?_
              refine lv_bipush (v := 13) hx hb dX8_fillShifts_47 rfl ?_
              refine lv_icmp_ne (tgt := 60) hx hb dX8_fillShifts_49 rfl (fun c49 => ?_) (fun c49 => ?_)
              · refine lv_iconst (v := 0) hx hb dX8_fillShifts_60 rfl ?_
                exact J _ (lt_in c49 (lt_in c43 (lt_ip c38 h))) ls (lv_sub hl [0, 1, 2, 4] rfl)
              · refine lv_iload_n hx hb dX8_fillShifts_52 rfl (lv_at hl 3 rfl) ?_
                refine rb_ne (tgt := 60) hx hb dX8_fillShifts_53 rfl (fun c53 => ?_) (fun c53 => ?_)
                · refine lv_iconst (v := 0) hx hb dX8_fillShifts_60 rfl ?_
                  exact J _ (lt_ip c53 (lt_ip c49 (lt_in c43 (lt_ip c38 h)))) ls (lv_sub hl [0, 1, 2, 4] rfl)
                · refine lv_iconst (v := 1) hx hb dX8_fillShifts_56 rfl ?_
                  refine lv_goto (tgt := 61) hx hb dX8_fillShifts_57 rfl ?_
                  exact J _ (lt_in c53 (lt_ip c49 (lt_in c43 (lt_ip c38 h)))) ls (lv_sub hl [0, 1, 2, 4] rfl)
  unfold f_X8_fillShifts at h
  refine lv_iload_n hx hb dX8_fillShifts_0 rfl (lv_at hl 1 rfl) ?_
  refine lv_iconst (v := 2) hx hb dX8_fillShifts_1 rfl ?_
  refine jx1 h (P := fun (v1 : Bool) => ∀ ls : Array Slot, lv_has ls 5 [(0, .ref a0), (1, .int p0)] → W p l e rm_X8_fillShifts s m args below meth c H locs 0 0 Q (F0 m 10 ls [.int (bI v1)])) ?_ ?_
  · intro v1 h ls hl
    refine lv_istore_n (lv' := [(2, .int (bI v1)), (0, .ref a0), (1, .int p0)]) hx hb dX8_fillShifts_10 rfl hl (by decide) rfl (fun ls hl => ?_)
    refine lv_iconst (v := 0) hx hb dX8_fillShifts_11 rfl ?_
    refine lv_istore_n (lv' := [(3, .int 0), (2, .int (bI v1)), (0, .ref a0), (1, .int p0)]) hx hb dX8_fillShifts_12 rfl hl (by decide) rfl (fun ls hl => ?_)
    refine lv_iconst (v := 0) hx hb dX8_fillShifts_13 rfl ?_
    refine lv_istore (lv' := [(4, .int 0), (3, .int 0), (2, .int (bI v1)), (0, .ref a0), (1, .int p0)]) hx hb dX8_fillShifts_14 hl (by decide) rfl (fun ls hl => ?_)
    exact l16  FU p0 (bI v1) false (0 : Int32) u_shifts _ _ _ h hP hS (lv_sub hl [3, 4, 2, 1, 0] rfl)
  · intro J h
    refine lv_icmp_ne (tgt := 9) hx hb dX8_fillShifts_2 rfl (fun c2 => ?_) (fun c2 => ?_)
    · refine lv_iconst (v := 0) hx hb dX8_fillShifts_9 rfl ?_
      exact J _ (lt_in c2 h) ls (lv_sub hl [0, 1] rfl)
    · refine lv_iconst (v := 1) hx hb dX8_fillShifts_5 rfl ?_
      refine lv_goto (tgt := 10) hx hb dX8_fillShifts_6 rfl ?_
      exact J _ (lt_ip c2 h) ls (lv_sub hl [0, 1] rfl)
abbrev rm_X8_ofShift : Room := { frames := 0, cells := 0, slots := 0, locals := 0 }
set_option maxRecDepth 100000 in
set_option maxHeartbeats 4000000 in
theorem c_X8_ofShift {g : gT} {l : Launch} {A : Nat → Prop} {w : va_W} {p0 : Int32} {p1 : Bool} {o : Int64} (h : f_X8_ofShift p0 p1  = some o) : Std g l yX8_ofShift (.code yX8_ofShift cX8_ofShift 7 (some .long) :: gw) rm_X8_ofShift A [.int p0, .int (bI p1)] w w (some (.long o)) := by
  refine std_l (own := RX8) (by decide +kernel) rfl (Nat.le_of_ble_eq_true rfl) ?_
  intro p e s m args below meth c Q X ret H locs hP hS ls hl
  have hx := X.1
  have hb := X.2.1
  have hl : lv_has ls 7 [(0, .int p0), (1, .int (bI p1))] := hl
  have ret : ∀ {H : Heap} {locs : List Loc} {pc : Nat} {ls : Array Slot} {v : Int64} , some (v) = some o → WP g A w H → va_S A s.heap H locs → decode cX8_ofShift pc = .ok (.lreturn, 1) → W p l e rm_X8_ofShift s m args below meth c H locs 0 0 Q (F0 m pc ls [.long v]) := by
    intro H locs pc ls v h hP hS hd
    cases h
    exact ret hP hS hd
  have b64 : ∀ (x2 : Int64) (H : Heap) (locs : List Loc) (ls : Array Slot), f_X8_ofShift_b64    x2 = some o → WP g A w H → va_S A s.heap H locs → lv_has ls 7 [(2, .long x2)] → W p l e rm_X8_ofShift s m args below meth c H locs 0 0 Q (F0 m 64 ls []) := by
    intro  x2 H locs ls h hP hS hl
    unfold f_X8_ofShift_b64 at h
    refine lv_lload_n hx hb dX8_ofShift_64 rfl (lv_at hl 0 rfl) ?_
    exact ret h hP hS dX8_ofShift_65
  have l5 : ∀ (n : Nat), ∀ (x0 : Int32) (x1 : Bool) (x2 : Int64) (x4 : Int32) (H : Heap) (locs : List Loc) (ls : Array Slot), f_X8_ofShift_l5    n x0 x1 x2 x4 = some o → WP g A w H → va_S A s.heap H locs → lv_has ls 7 [(0, .int x0), (1, .int (bI x1)), (2, .long x2), (4, .int x4)] → W p l e rm_X8_ofShift s m args below meth c H locs 0 0 Q (F0 m 5 ls []) := by
    intro  n
    induction n with
    | zero =>
      intro x0 x1 x2 x4 H locs ls h
      exact nz_of h
    | succ n ih =>
      intro x0 x1 x2 x4 H locs ls h hP hS hl
      rw [f_X8_ofShift_l5] at h
      refine lv_iload hx hb dX8_ofShift_5 (lv_at hl 3 rfl) ?_
      refine lv_bipush (v := 56) hx hb dX8_ofShift_7 rfl ?_
      refine lv_icmp_gt (tgt := 64) hx hb dX8_ofShift_9 rfl (fun c9 => ?_) (fun c9 => ?_)
      · have h := br_p c9 h
        exact b64   x2 _ _ _ h hP hS (lv_sub hl [2] rfl)
      · have h := br_n c9 h
        refine lv_iload hx hb dX8_ofShift_12 (lv_at hl 3 rfl) ?_
        refine lv_iload_n hx hb dX8_ofShift_14 rfl (lv_at hl 0 rfl) ?_
        refine lv_imul hx hb dX8_ofShift_15 ?_
        refine lv_bipush (v := 56) hx hb dX8_ofShift_16 rfl ?_
        refine lv_icmp_gt (tgt := 64) hx hb dX8_ofShift_18 rfl (fun c18 => ?_) (fun c18 => ?_)
        · have h := br_p c18 h
          exact b64   x2 _ _ _ h hP hS (lv_sub hl [2] rfl)
        · have h := br_n c18 h
          refine lv_lconst (v := 1) hx hb dX8_ofShift_21 rfl ?_
          refine lv_bipush (v := 56) hx hb dX8_ofShift_22 rfl ?_
          refine lv_iload hx hb dX8_ofShift_24 (lv_at hl 3 rfl) ?_
          refine lv_iload_n hx hb dX8_ofShift_26 rfl (lv_at hl 0 rfl) ?_
          refine lv_imul hx hb dX8_ofShift_27 ?_
          refine lv_isub hx hb dX8_ofShift_28 ?_
          refine lv_lshl hx hb dX8_ofShift_29 rfl ?_
          refine lv_iload hx hb dX8_ofShift_30 (lv_at hl 3 rfl) ?_
          refine lv_i2l hx hb dX8_ofShift_32 rfl ?_
          obtain ⟨cz33, h⟩ := gz_of h
          refine lv_ldiv hx hb dX8_ofShift_33 cz33 ?_
          refine lv_topl (fun v1 ev1 => ?_)
          have h := lt_at ev1 h
          refine lv_lstore (lv' := [(5, .long v1), (0, .int x0), (1, .int (bI x1)), (2, .long x2), (4, .int x4)]) hx hb dX8_ofShift_34 hl (by decide) rfl (fun ls hl => ?_)
          refine lv_lload_n hx hb dX8_ofShift_36 rfl (lv_at hl 3 rfl) ?_
          refine lv_iload_n hx hb dX8_ofShift_37 rfl (lv_at hl 2 rfl) ?_
          refine jx1 h (P := fun (v2 : Int64) => ∀ ls : Array Slot, lv_has ls 7 [(0, .int x0), (1, .int (bI x1)), (4, .int x4)] → W p l e rm_X8_ofShift s m args below meth c H locs 0 0 Q (F0 m 56 ls [.long v2, .long x2])) ?_ ?_
          · intro v2 h ls hl
            refine lv_ladd hx hb dX8_ofShift_56 ?_
            refine lv_topl (fun v3 ev3 => ?_)
            have h := lt_at ev3 h
            refine lv_lstore_n (lv' := [(2, .long v3), (0, .int x0), (1, .int (bI x1)), (4, .int x4)]) hx hb dX8_ofShift_57 rfl hl (by decide) rfl (fun ls hl => ?_)
            obtain ⟨v4, ev4⟩ : ∃ z : Int32, z = (x4 + 2) := ⟨_, rfl⟩
            have h := lt_at ev4 h
            refine lv_iinc (v := v4) (lv' := [(4, .int v4), (2, .long v3), (0, .int x0), (1, .int (bI x1))]) hx hb dX8_ofShift_58 hl (k := 3) rfl (by rw [ev4]; rfl) (by decide) rfl (fun ls hl => ?_)
            refine lv_goto (tgt := 5) hx hb dX8_ofShift_61 rfl ?_
            exact ih x0 x1 v3 v4 _ _ _ h hP hS (lv_sub hl [2, 3, 1, 0] rfl)
          · intro J h
            refine rb_eq (tgt := 54) hx hb dX8_ofShift_38 rfl (fun c38 => ?_) (fun c38 => ?_)
            · refine lv_lload hx hb dX8_ofShift_54 (lv_at hl 0 rfl) ?_
              exact J _ (lt_in c38 h) ls (lv_sub hl [1, 2, 4] rfl)
            · refine lv_iload hx hb dX8_ofShift_41 (lv_at hl 4 rfl) ?_
              refine lv_iconst (v := 2) hx hb dX8_ofShift_43 rfl ?_
              refine lv_iand hx hb dX8_ofShift_44 ?_
              refine lv_if_eq (tgt := 54) hx hb dX8_ofShift_45 rfl (fun c45 => ?_) (fun c45 => ?_)
              · refine lv_lload hx hb dX8_ofShift_54 (lv_at hl 0 rfl) ?_
                exact J _ (lt_ip c45 (lt_ip c38 h)) ls (lv_sub hl [1, 2, 4] rfl)
              · refine lv_lload hx hb dX8_ofShift_48 (lv_at hl 0 rfl) ?_
                refine lv_lneg hx hb dX8_ofShift_50 ?_
                refine lv_goto (tgt := 56) hx hb dX8_ofShift_51 rfl ?_
                exact J _ (lt_in c45 (lt_ip c38 h)) ls (lv_sub hl [1, 2, 4] rfl)
  unfold f_X8_ofShift at h
  refine lv_lconst (v := 0) hx hb dX8_ofShift_0 rfl ?_
  refine lv_lstore_n (lv' := [(2, .long (0 : Int64)), (0, .int p0), (1, .int (bI p1))]) hx hb dX8_ofShift_1 rfl hl (by decide) rfl (fun ls hl => ?_)
  refine lv_iconst (v := 1) hx hb dX8_ofShift_2 rfl ?_
  refine lv_istore (lv' := [(4, .int 1), (2, .long (0 : Int64)), (0, .int p0), (1, .int (bI p1))]) hx hb dX8_ofShift_3 hl (by decide) rfl (fun ls hl => ?_)
  exact l5  FU p0 p1 (0 : Int64) (1 : Int32) _ _ _ h hP hS (lv_sub hl [2, 3, 1, 0] rfl)
abbrev rm_X8_powerFor : Room := { frames := 0, cells := 0, slots := 0, locals := 0 }
set_option maxRecDepth 100000 in
set_option maxHeartbeats 4000000 in
theorem c_X8_powerFor {g : gT} {l : Launch} {A : Nat → Prop} {a0 a1 a2 a3 a4 a5 : Nat} {u_width : Int32} {u_guard : Int32} {u_bits : Int32} {u_stages : Int32} {u_places : Int32} {u_near : Bool} {u_quarter : Int64} {u_eighth : Int64} {u_ln : Int64} {u_shifts : Nat → Int32} {u_angles : Nat → Int64} {u_gains : Nat → Int64} {u_undos : Nat → Int64} {u_digits : Nat → Int32} {p0 : Int32} {o : Int64} (h : f_X8_powerFor p0 u_bits = some o) : Std g l yX8_powerFor (.code yX8_powerFor cX8_powerFor 2 (some .long) :: gw) rm_X8_powerFor A [.ref a0, .int p0] (wUnit g a0 a1 a2 a3 a4 a5 u_width u_guard u_bits u_stages u_places u_near u_quarter u_eighth u_ln u_shifts u_angles u_gains u_undos u_digits) (wUnit g a0 a1 a2 a3 a4 a5 u_width u_guard u_bits u_stages u_places u_near u_quarter u_eighth u_ln u_shifts u_angles u_gains u_undos u_digits) (some (.long o)) := by
  refine std_l (own := RX8) (by decide +kernel) rfl (Nat.le_of_ble_eq_true rfl) ?_
  intro p e s m args below meth c Q X ret H locs hP hS ls hl
  have hx := X.1
  have hb := X.2.1
  have hl : lv_has ls 2 [(0, .ref a0), (1, .int p0)] := hl
  have ret : ∀ {H : Heap} {locs : List Loc} {pc : Nat} {ls : Array Slot} {v : Int64} , some (v) = some o → WP g A (wUnit g a0 a1 a2 a3 a4 a5 u_width u_guard u_bits u_stages u_places u_near u_quarter u_eighth u_ln u_shifts u_angles u_gains u_undos u_digits) H → va_S A s.heap H locs → decode cX8_powerFor pc = .ok (.lreturn, 1) → W p l e rm_X8_powerFor s m args below meth c H locs 0 0 Q (F0 m pc ls [.long v]) := by
    intro H locs pc ls v h hP hS hd
    cases h
    exact ret hP hS hd
  unfold f_X8_powerFor at h
  refine lv_iload_n hx hb dX8_powerFor_0 rfl (lv_at hl 1 rfl) ?_
  refine lv_aload_n hx hb dX8_powerFor_1 rfl (lv_at hl 0 rfl) ?_
  refine gf_X8_45_Unit_0 X hP dX8_powerFor_2 ?_
  refine jx1 h (P := fun (v1 : Int64) => ∀ ls : Array Slot, lv_has ls 2 [] → W p l e rm_X8_powerFor s m args below meth c H locs 0 0 Q (F0 m 20 ls [.long v1])) ?_ ?_
  · intro v1 h ls hl
    exact ret h hP hS dX8_powerFor_20
  · intro J h
    refine lv_icmp_gt (tgt := 19) hx hb dX8_powerFor_5 rfl (fun c5 => ?_) (fun c5 => ?_)
    · refine lv_lconst (v := 0) hx hb dX8_powerFor_19 rfl ?_
      exact J _ (lt_ip c5 h) ls (lv_sub hl [] rfl)
    · refine lv_lconst (v := 1) hx hb dX8_powerFor_8 rfl ?_
      refine lv_aload_n hx hb dX8_powerFor_9 rfl (lv_at hl 0 rfl) ?_
      refine gf_X8_45_Unit_0 X hP dX8_powerFor_10 ?_
      refine lv_iload_n hx hb dX8_powerFor_13 rfl (lv_at hl 1 rfl) ?_
      refine lv_isub hx hb dX8_powerFor_14 ?_
      refine lv_lshl hx hb dX8_powerFor_15 rfl ?_
      refine lv_goto (tgt := 20) hx hb dX8_powerFor_16 rfl ?_
      exact J _ (lt_in c5 h) ls (lv_sub hl [] rfl)
abbrev rm_X8_fillAngles : Room := { frames := 1, cells := 0, slots := 0, locals := 26 }
set_option maxRecDepth 100000 in
set_option maxHeartbeats 4000000 in
theorem c_X8_fillAngles {g : gT} {l : Launch} {A : Nat → Prop} {a0 a1 a2 a3 a4 a5 : Nat} {u_width : Int32} {u_guard : Int32} {u_bits : Int32} {u_stages : Int32} {u_places : Int32} {u_near : Bool} {u_quarter : Int64} {u_eighth : Int64} {u_ln : Int64} {u_shifts : Nat → Int32} {u_angles : Nat → Int64} {u_gains : Nat → Int64} {u_undos : Nat → Int64} {u_digits : Nat → Int32} {p0 : Int32} {o : (Nat → Int64)} (h : f_X8_fillAngles p0 u_bits u_eighth u_shifts u_angles = some o) : Std g l yX8_fillAngles (.code yX8_fillAngles cX8_fillAngles 4 none :: gw) rm_X8_fillAngles A [.ref a0, .int p0] (wUnit g a0 a1 a2 a3 a4 a5 u_width u_guard u_bits u_stages u_places u_near u_quarter u_eighth u_ln u_shifts u_angles u_gains u_undos u_digits) (wUnit g a0 a1 a2 a3 a4 a5 u_width u_guard u_bits u_stages u_places u_near u_quarter u_eighth u_ln u_shifts o u_gains u_undos u_digits) none := by
  refine std_v (own := RX8) (by decide +kernel) rfl (Nat.le_of_ble_eq_true rfl) ?_
  intro p e s m args below meth c Q X ret H locs hP hS ls hl
  have hx := X.1
  have hb := X.2.1
  have hl : lv_has ls 4 [(0, .ref a0), (1, .int p0)] := hl
  have ret : ∀ {H : Heap} {locs : List Loc} {pc : Nat} {ls : Array Slot} {u_angles : Nat → Int64}, some (u_angles) = some o → WP g A (wUnit g a0 a1 a2 a3 a4 a5 u_width u_guard u_bits u_stages u_places u_near u_quarter u_eighth u_ln u_shifts u_angles u_gains u_undos u_digits) H → va_S A s.heap H locs → decode cX8_fillAngles pc = .ok (.return_, 1) → W p l e rm_X8_fillAngles s m args below meth c H locs 0 0 Q (F0 m pc ls []) := by
    intro H locs pc ls u_angles h hP hS hd
    cases h
    exact ret hP hS hd
  have b81 : ∀ (k5 : Int32 → Int32 → (Nat → Int64) → Option ((Nat → Int64))) (hk5 : ∀ (x1 : Int32) (x2 : Int32) (u_angles : Nat → Int64) (H : Heap) (locs : List Loc) (ls : Array Slot), k5 x1 x2 u_angles = some o → WP g A (wUnit g a0 a1 a2 a3 a4 a5 u_width u_guard u_bits u_stages u_places u_near u_quarter u_eighth u_ln u_shifts u_angles u_gains u_undos u_digits) H → va_S A s.heap H locs → lv_has ls 4 [(0, .ref a0), (1, .int x1), (2, .int x2)] → W p l e rm_X8_fillAngles s m args below meth c H locs 0 0 Q (F0 m 5 ls [])) , ∀ (x1 : Int32) (x2 : Int32) (u_angles : Nat → Int64) (H : Heap) (locs : List Loc) (ls : Array Slot), f_X8_fillAngles_b81  u_bits u_eighth u_shifts k5 x1 x2 u_angles = some o → WP g A (wUnit g a0 a1 a2 a3 a4 a5 u_width u_guard u_bits u_stages u_places u_near u_quarter u_eighth u_ln u_shifts u_angles u_gains u_undos u_digits) H → va_S A s.heap H locs → lv_has ls 4 [(0, .ref a0), (1, .int x1), (2, .int x2)] → W p l e rm_X8_fillAngles s m args below meth c H locs 0 0 Q (F0 m 81 ls []) := by
    intro k5 hk5 x1 x2 u_angles H locs ls h hP hS hl
    unfold f_X8_fillAngles_b81 at h
    obtain ⟨v6, ev6⟩ : ∃ z : Int32, z = (x2 + 1) := ⟨_, rfl⟩
    have h := lt_at ev6 h
    refine lv_iinc (v := v6) (lv' := [(2, .int v6), (0, .ref a0), (1, .int x1)]) hx hb dX8_fillAngles_81 hl (k := 2) rfl (by rw [ev6]; rfl) (by decide) rfl (fun ls hl => ?_)
    refine lv_goto (tgt := 5) hx hb dX8_fillAngles_84 rfl ?_
    exact hk5 x1 v6 u_angles _ _ _ h hP hS (lv_sub hl [1, 2, 0] rfl)
  have l5 : ∀ (n : Nat), ∀ (x1 : Int32) (x2 : Int32) (u_angles : Nat → Int64) (H : Heap) (locs : List Loc) (ls : Array Slot), f_X8_fillAngles_l5  u_bits u_eighth u_shifts  n x1 x2 u_angles = some o → WP g A (wUnit g a0 a1 a2 a3 a4 a5 u_width u_guard u_bits u_stages u_places u_near u_quarter u_eighth u_ln u_shifts u_angles u_gains u_undos u_digits) H → va_S A s.heap H locs → lv_has ls 4 [(0, .ref a0), (1, .int x1), (2, .int x2)] → W p l e rm_X8_fillAngles s m args below meth c H locs 0 0 Q (F0 m 5 ls []) := by
    intro  n
    induction n with
    | zero =>
      intro x1 x2 u_angles H locs ls h
      exact nz_of h
    | succ n ih =>
      intro x1 x2 u_angles H locs ls h hP hS hl
      rw [f_X8_fillAngles_l5] at h
      refine lv_iload_n hx hb dX8_fillAngles_5 rfl (lv_at hl 2 rfl) ?_
      refine lv_iload_n hx hb dX8_fillAngles_6 rfl (lv_at hl 1 rfl) ?_
      refine lv_iconst (v := 1) hx hb dX8_fillAngles_7 rfl ?_
      refine lv_iadd hx hb dX8_fillAngles_8 ?_
      refine lv_bipush (v := 24) hx hb dX8_fillAngles_9 rfl ?_
      refine lv_imul hx hb dX8_fillAngles_11 ?_
      refine lv_icmp_ge (tgt := 87) hx hb dX8_fillAngles_12 rfl (fun c12 => ?_) (fun c12 => ?_)
      · have h := br_p c12 h
        exact ret h hP hS dX8_fillAngles_87
      · have h := br_n c12 h
        refine lv_aload_n hx hb dX8_fillAngles_15 rfl (lv_at hl 0 rfl) ?_
        refine gf_X8_9_Unit_0 X hP dX8_fillAngles_16 ?_
        refine lv_iload_n hx hb dX8_fillAngles_19 rfl (lv_at hl 2 rfl) ?_
        obtain ⟨hi20, h⟩ := gv_of h
        refine al_Unit_1 X hP hi20 dX8_fillAngles_20 ?_
        refine lv_topi (fun v2 ev2 => ?_)
        have h := lt_at ev2 h
        refine lv_istore_n (lv' := [(3, .int v2), (0, .ref a0), (1, .int x1), (2, .int x2)]) hx hb dX8_fillAngles_21 rfl hl (by decide) rfl (fun ls hl => ?_)
        refine lv_iload_n hx hb dX8_fillAngles_22 rfl (lv_at hl 2 rfl) ?_
        refine lv_iconst (v := 1) hx hb dX8_fillAngles_23 rfl ?_
        refine lv_icmp_ne (tgt := 41) hx hb dX8_fillAngles_24 rfl (fun c24 => ?_) (fun c24 => ?_)
        · have h := br_n c24 h
          refine lv_iload_n hx hb dX8_fillAngles_41 rfl (lv_at hl 0 rfl) ?_
          refine lv_if_ne (tgt := 58) hx hb dX8_fillAngles_42 rfl (fun c42 => ?_) (fun c42 => ?_)
          · have h := br_n c42 h
            refine lv_aload_n hx hb dX8_fillAngles_58 rfl (lv_at hl 1 rfl) ?_
            refine gf_X8_15_Unit_0 X hP dX8_fillAngles_59 ?_
            refine lv_iload_n hx hb dX8_fillAngles_62 rfl (lv_at hl 3 rfl) ?_
            refine lv_aload_n hx hb dX8_fillAngles_63 rfl (lv_at hl 1 rfl) ?_
            refine lv_iload_n hx hb dX8_fillAngles_64 rfl (lv_at hl 0 rfl) ?_
            refine lv_iload_n hx hb dX8_fillAngles_65 rfl (lv_at hl 2 rfl) ?_
            refine jx1 h (P := fun (v3 : Bool) => ∀ ls : Array Slot, lv_has ls 4 [(0, .ref a0), (1, .int x1), (2, .int x2)] → W p l e rm_X8_fillAngles s m args below meth c H locs 0 0 Q (F0 m 74 ls [.int (bI v3), .int v2, .ref a0, .int x2, .ref a2])) ?_ ?_
            · intro v3 h ls hl
              obtain ⟨o4, hco4, h⟩ := bd_of h
              refine kS (rest := [.ref a0, .int x2, .ref a2]) X dX8_fillAngles_74 wd_2_25 mw_X8_ofShift wd_2_26 hP hS (fun _ z => z) (c_X8_ofShift hco4) rfl hl.1 rfl (Nat.le_of_ble_eq_true rfl) rfl rfl ⟨Nat.le_of_ble_eq_true rfl, Nat.le_of_ble_eq_true rfl⟩ (fun H locs hP _ _ hS => ?_)
              refine W.eq (g2 := F0 m 77 ls [.long o4, .ref a0, .int x2, .ref a2]) rfl ?_
              obtain ⟨o5, hco5, h⟩ := bd_of h
              refine kV (rest := [.int x2, .ref a2]) X dX8_fillAngles_77 wd_2_8 mw_X8_rounded wd_2_10 wp_1_1 hP (k0 := 0) rfl rfl rfl hS (fun _ z => z) (c_X8_rounded hco5) rfl hl.1 rfl (Nat.le_of_ble_eq_true rfl) rfl rfl ⟨Nat.le_of_ble_eq_true rfl, Nat.le_of_ble_eq_true rfl⟩ (fun H locs hP _ _ hS => ?_)
              refine W.eq (g2 := F0 m 80 ls [.long o5, .int x2, .ref a2]) rfl ?_
              obtain ⟨hi80, h⟩ := gv_of h
              refine as_Unit_2 (v0 := o5) X hP hS hi80 dX8_fillAngles_80 (fun H locs hP hS => ?_)
              exact b81 (f_X8_fillAngles_l5  u_bits u_eighth u_shifts  n) ih  x1 x2 (vp_updL u_angles (x2).toNatClampNeg o5) _ _ _ h hP hS (lv_sub hl [0, 1, 2] rfl)
            · intro J h
              refine lv_if_ne (tgt := 73) hx hb dX8_fillAngles_66 rfl (fun c66 => ?_) (fun c66 => ?_)
              · refine lv_iconst (v := 0) hx hb dX8_fillAngles_73 rfl ?_
                exact J _ (lt_in c66 h) ls (lv_sub hl [1, 2, 3] rfl)
              · refine lv_iconst (v := 1) hx hb dX8_fillAngles_69 rfl ?_
                refine lv_goto (tgt := 74) hx hb dX8_fillAngles_70 rfl ?_
                exact J _ (lt_ip c66 h) ls (lv_sub hl [1, 2, 3] rfl)
          · have h := br_p c42 h
            refine lv_aload_n hx hb dX8_fillAngles_45 rfl (lv_at hl 1 rfl) ?_
            refine gf_X8_15_Unit_0 X hP dX8_fillAngles_46 ?_
            refine lv_iload_n hx hb dX8_fillAngles_49 rfl (lv_at hl 3 rfl) ?_
            refine lv_aload_n hx hb dX8_fillAngles_50 rfl (lv_at hl 1 rfl) ?_
            refine gf_X8_56_Unit_0 X hP dX8_fillAngles_51 ?_
            obtain ⟨hi54, h⟩ := gv_of h
            refine as_Unit_2 (v0 := u_eighth) X hP hS hi54 dX8_fillAngles_54 (fun H locs hP hS => ?_)
            refine lv_goto (tgt := 81) hx hb dX8_fillAngles_55 rfl ?_
            exact b81 (f_X8_fillAngles_l5  u_bits u_eighth u_shifts  n) ih  x1 x2 (vp_updL u_angles (x2).toNatClampNeg u_eighth) _ _ _ h hP hS (lv_sub hl [1, 2, 3] rfl)
        · have h := br_p c24 h
          refine lv_aload_n hx hb dX8_fillAngles_27 rfl (lv_at hl 1 rfl) ?_
          refine gf_X8_15_Unit_0 X hP dX8_fillAngles_28 ?_
          refine lv_iload_n hx hb dX8_fillAngles_31 rfl (lv_at hl 3 rfl) ?_
          refine lv_aload_n hx hb dX8_fillAngles_32 rfl (lv_at hl 1 rfl) ?_
          refine lv_iload_n hx hb dX8_fillAngles_33 rfl (lv_at hl 0 rfl) ?_
          obtain ⟨o7, hco7, h⟩ := bd_of h
          refine kV (rest := [.int x2, .ref a2]) X dX8_fillAngles_34 wd_2_21 mw_X8_powerFor wd_2_23 wp_1_4 hP (k0 := 0) rfl rfl rfl hS (fun _ z => z) (c_X8_powerFor hco7) rfl hl.1 rfl (Nat.le_of_ble_eq_true rfl) rfl rfl ⟨Nat.le_of_ble_eq_true rfl, Nat.le_of_ble_eq_true rfl⟩ (fun H locs hP _ _ hS => ?_)
          refine W.eq (g2 := F0 m 37 ls [.long o7, .int x2, .ref a2]) rfl ?_
          obtain ⟨hi37, h⟩ := gv_of h
          refine as_Unit_2 (v0 := o7) X hP hS hi37 dX8_fillAngles_37 (fun H locs hP hS => ?_)
          refine lv_goto (tgt := 81) hx hb dX8_fillAngles_38 rfl ?_
          exact b81 (f_X8_fillAngles_l5  u_bits u_eighth u_shifts  n) ih  x1 x2 (vp_updL u_angles (x2).toNatClampNeg o7) _ _ _ h hP hS (lv_sub hl [1, 2, 3] rfl)
  unfold f_X8_fillAngles at h
  refine lv_iload_n hx hb dX8_fillAngles_0 rfl (lv_at hl 1 rfl) ?_
  refine lv_bipush (v := 24) hx hb dX8_fillAngles_1 rfl ?_
  refine lv_imul hx hb dX8_fillAngles_3 ?_
  refine lv_topi (fun v1 ev1 => ?_)
  have h := lt_at ev1 h
  refine lv_istore_n (lv' := [(2, .int v1), (0, .ref a0), (1, .int p0)]) hx hb dX8_fillAngles_4 rfl hl (by decide) rfl (fun ls hl => ?_)
  exact l5  FU p0 v1 u_angles _ _ _ h hP hS (lv_sub hl [1, 2, 0] rfl)
abbrev rm_X8_square : Room := { frames := 0, cells := 0, slots := 0, locals := 0 }
set_option maxRecDepth 100000 in
set_option maxHeartbeats 4000000 in
theorem c_X8_square {g : gT} {l : Launch} {A : Nat → Prop} {a0 a1 a2 a3 a4 a5 : Nat} {u_width : Int32} {u_guard : Int32} {u_bits : Int32} {u_stages : Int32} {u_places : Int32} {u_near : Bool} {u_quarter : Int64} {u_eighth : Int64} {u_ln : Int64} {u_shifts : Nat → Int32} {u_angles : Nat → Int64} {u_gains : Nat → Int64} {u_undos : Nat → Int64} {u_digits : Nat → Int32} {p0 : Int32} {o : Int64} (h : f_X8_square p0 u_stages u_shifts = some o) : Std g l yX8_square (.code yX8_square cX8_square 7 (some .long) :: gw) rm_X8_square A [.ref a0, .int p0] (wUnit g a0 a1 a2 a3 a4 a5 u_width u_guard u_bits u_stages u_places u_near u_quarter u_eighth u_ln u_shifts u_angles u_gains u_undos u_digits) (wUnit g a0 a1 a2 a3 a4 a5 u_width u_guard u_bits u_stages u_places u_near u_quarter u_eighth u_ln u_shifts u_angles u_gains u_undos u_digits) (some (.long o)) := by
  refine std_l (own := RX8) (by decide +kernel) rfl (Nat.le_of_ble_eq_true rfl) ?_
  intro p e s m args below meth c Q X ret H locs hP hS ls hl
  have hx := X.1
  have hb := X.2.1
  have hl : lv_has ls 7 [(0, .ref a0), (1, .int p0)] := hl
  have ret : ∀ {H : Heap} {locs : List Loc} {pc : Nat} {ls : Array Slot} {v : Int64} , some (v) = some o → WP g A (wUnit g a0 a1 a2 a3 a4 a5 u_width u_guard u_bits u_stages u_places u_near u_quarter u_eighth u_ln u_shifts u_angles u_gains u_undos u_digits) H → va_S A s.heap H locs → decode cX8_square pc = .ok (.lreturn, 1) → W p l e rm_X8_square s m args below meth c H locs 0 0 Q (F0 m pc ls [.long v]) := by
    intro H locs pc ls v h hP hS hd
    cases h
    exact ret hP hS hd
  have b69 : ∀ (x2 : Int64) (H : Heap) (locs : List Loc) (ls : Array Slot), f_X8_square_b69  u_stages u_shifts  x2 = some o → WP g A (wUnit g a0 a1 a2 a3 a4 a5 u_width u_guard u_bits u_stages u_places u_near u_quarter u_eighth u_ln u_shifts u_angles u_gains u_undos u_digits) H → va_S A s.heap H locs → lv_has ls 7 [(2, .long x2)] → W p l e rm_X8_square s m args below meth c H locs 0 0 Q (F0 m 69 ls []) := by
    intro  x2 H locs ls h hP hS hl
    unfold f_X8_square_b69 at h
    refine lv_lload_n hx hb dX8_square_69 rfl (lv_at hl 0 rfl) ?_
    exact ret h hP hS dX8_square_70
  have l7 : ∀ (n : Nat), ∀ (x1 : Int32) (x2 : Int64) (x4 : Int32) (H : Heap) (locs : List Loc) (ls : Array Slot), f_X8_square_l7  u_stages u_shifts  n x1 x2 x4 = some o → WP g A (wUnit g a0 a1 a2 a3 a4 a5 u_width u_guard u_bits u_stages u_places u_near u_quarter u_eighth u_ln u_shifts u_angles u_gains u_undos u_digits) H → va_S A s.heap H locs → lv_has ls 7 [(0, .ref a0), (1, .int x1), (2, .long x2), (4, .int x4)] → W p l e rm_X8_square s m args below meth c H locs 0 0 Q (F0 m 7 ls []) := by
    intro  n
    induction n with
    | zero =>
      intro x1 x2 x4 H locs ls h
      exact nz_of h
    | succ n ih =>
      intro x1 x2 x4 H locs ls h hP hS hl
      rw [f_X8_square_l7] at h
      refine lv_iload hx hb dX8_square_7 (lv_at hl 3 rfl) ?_
      refine lv_aload_n hx hb dX8_square_9 rfl (lv_at hl 0 rfl) ?_
      refine gf_X8_35_Unit_0 X hP dX8_square_10 ?_
      refine lv_icmp_ge (tgt := 69) hx hb dX8_square_13 rfl (fun c13 => ?_) (fun c13 => ?_)
      · have h := br_p c13 h
        exact b69   x2 _ _ _ h hP hS (lv_sub hl [2] rfl)
      · have h := br_n c13 h
        refine lv_iload hx hb dX8_square_16 (lv_at hl 3 rfl) ?_
        refine lv_bipush (v := 24) hx hb dX8_square_18 rfl ?_
        refine lv_icmp_ge (tgt := 69) hx hb dX8_square_20 rfl (fun c20 => ?_) (fun c20 => ?_)
        · have h := br_p c20 h
          exact b69   x2 _ _ _ h hP hS (lv_sub hl [2] rfl)
        · have h := br_n c20 h
          refine lv_lload_n hx hb dX8_square_23 rfl (lv_at hl 2 rfl) ?_
          refine lv_iconst (v := 2) hx hb dX8_square_24 rfl ?_
          refine lv_aload_n hx hb dX8_square_25 rfl (lv_at hl 0 rfl) ?_
          refine gf_X8_9_Unit_0 X hP dX8_square_26 ?_
          refine lv_iload_n hx hb dX8_square_29 rfl (lv_at hl 1 rfl) ?_
          refine lv_bipush (v := 24) hx hb dX8_square_30 rfl ?_
          refine lv_imul hx hb dX8_square_32 ?_
          refine lv_iload hx hb dX8_square_33 (lv_at hl 3 rfl) ?_
          refine lv_iadd hx hb dX8_square_35 ?_
          obtain ⟨hi36, h⟩ := gv_of h
          refine al_Unit_1 X hP hi36 dX8_square_36 ?_
          refine lv_imul hx hb dX8_square_37 ?_
          refine lv_lshr hx hb dX8_square_38 rfl ?_
          refine lv_topl (fun v1 ev1 => ?_)
          have h := lt_at ev1 h
          refine lv_lstore (lv' := [(5, .long v1), (0, .ref a0), (1, .int x1), (2, .long x2), (4, .int x4)]) hx hb dX8_square_39 hl (by decide) rfl (fun ls hl => ?_)
          refine lv_iload_n hx hb dX8_square_41 rfl (lv_at hl 2 rfl) ?_
          refine jx1 h (P := fun (v2 : Int64) => ∀ ls : Array Slot, lv_has ls 7 [(0, .ref a0), (1, .int x1), (2, .long v2), (4, .int x4)] → W p l e rm_X8_square s m args below meth c H locs 0 0 Q (F0 m 63 ls [])) ?_ ?_
          · intro v2 h ls hl
            obtain ⟨v3, ev3⟩ : ∃ z : Int32, z = (x4 + 1) := ⟨_, rfl⟩
            have h := lt_at ev3 h
            refine lv_iinc (v := v3) (lv' := [(4, .int v3), (0, .ref a0), (1, .int x1), (2, .long v2)]) hx hb dX8_square_63 hl (k := 3) rfl (by rw [ev3]; rfl) (by decide) rfl (fun ls hl => ?_)
            refine lv_goto (tgt := 7) hx hb dX8_square_66 rfl ?_
            exact ih x1 v2 v3 _ _ _ h hP hS (lv_sub hl [1, 2, 3, 0] rfl)
          · intro J h
            refine lv_if_ne (tgt := 53) hx hb dX8_square_42 rfl (fun c42 => ?_) (fun c42 => ?_)
            · refine lv_iload_n hx hb dX8_square_53 rfl (lv_at hl 2 rfl) ?_
              refine lv_iconst (v := 2) hx hb dX8_square_54 rfl ?_
              refine lv_icmp_ne (tgt := 63) hx hb dX8_square_55 rfl (fun c55 => ?_) (fun c55 => ?_)
              · exact J _ (lt_in c55 (lt_in c42 h)) ls (lv_sub hl [1, 2, 3, 4] rfl)
              · refine lv_lload_n hx hb dX8_square_58 rfl (lv_at hl 3 rfl) ?_
                refine lv_lload hx hb dX8_square_59 (lv_at hl 0 rfl) ?_
                refine lv_lsub hx hb dX8_square_61 ?_
                refine lv_lstore_n (lv' := [(2, .long (x2 - v1)), (5, .long v1), (0, .ref a0), (1, .int x1), (4, .int x4)]) hx hb dX8_square_62 rfl hl (by decide) rfl (fun ls hl => ?_)
                exact J _ (lt_ip c55 (lt_in c42 h)) ls (lv_sub hl [2, 3, 0, 4] rfl)
            · refine lv_lload_n hx hb dX8_square_45 rfl (lv_at hl 3 rfl) ?_
              refine lv_lload hx hb dX8_square_46 (lv_at hl 0 rfl) ?_
              refine lv_ladd hx hb dX8_square_48 ?_
              refine lv_lstore_n (lv' := [(2, .long (x2 + v1)), (5, .long v1), (0, .ref a0), (1, .int x1), (4, .int x4)]) hx hb dX8_square_49 rfl hl (by decide) rfl (fun ls hl => ?_)
              refine lv_goto (tgt := 63) hx hb dX8_square_50 rfl ?_
              exact J _ (lt_ip c42 h) ls (lv_sub hl [2, 3, 0, 4] rfl)
  unfold f_X8_square at h
  refine lv_ldc2 (v := 18014398509481984) hx hb X.2.2.2.1 (X.2.2.2.2.1 _ wd_2_32) dX8_square_0 ?_
  refine lv_lstore_n (lv' := [(2, .long (18014398509481984 : Int64)), (0, .ref a0), (1, .int p0)]) hx hb dX8_square_3 rfl hl (by decide) rfl (fun ls hl => ?_)
  refine lv_iconst (v := 0) hx hb dX8_square_4 rfl ?_
  refine lv_istore (lv' := [(4, .int 0), (2, .long (18014398509481984 : Int64)), (0, .ref a0), (1, .int p0)]) hx hb dX8_square_5 hl (by decide) rfl (fun ls hl => ?_)
  exact l7  FU p0 (18014398509481984 : Int64) (0 : Int32) _ _ _ h hP hS (lv_sub hl [2, 3, 1, 0] rfl)
