abbrev rm_X1_clear : Room := { frames := 0, cells := 0, slots := 0, locals := 0 }
set_option maxRecDepth 100000 in
set_option maxHeartbeats 4000000 in
theorem c_X1_clear {g : gT} {l : Launch} {A : Nat → Prop} {a0 a1 a2 a3 a4 a5 a6 a7 a8 : Nat} {b_jobs : Int32} {b_over : Int32} {b_clocks : Int32} {b_held : Bool} {b_kinds : Nat → Int32} {b_operands : Nat → Int32} {b_ties : Nat → Int32} {b_states : Nat → Int32} {b_gone : Nat → Int32} {b_toldIn : Nat → Int32} {b_broughtIn : Nat → Int32} {b_doneIn : Nat → Int32}  {o : Int32 × Int32 × Int32 × Bool} (h : f_X1_clear  b_jobs b_over b_clocks b_held = some o) : Std g l yX1_clear (.code yX1_clear cX1_clear 1 none :: gw) rm_X1_clear A [.ref a0] (wBook g a0 a1 a2 a3 a4 a5 a6 a7 a8 b_jobs b_over b_clocks b_held b_kinds b_operands b_ties b_states b_gone b_toldIn b_broughtIn b_doneIn) (wBook g a0 a1 a2 a3 a4 a5 a6 a7 a8 o.1 o.2.1 o.2.2.1 o.2.2.2 b_kinds b_operands b_ties b_states b_gone b_toldIn b_broughtIn b_doneIn) none := by
  refine std_v (own := RX1) (by decide +kernel) rfl (Nat.le_of_ble_eq_true rfl) ?_
  intro p e s m args below meth c Q X ret H locs hP hS ls hl
  have hx := X.1
  have hb := X.2.1
  have hl : lv_has ls 1 [(0, .ref a0)] := hl
  have ret : ∀ {H : Heap} {locs : List Loc} {pc : Nat} {ls : Array Slot} {b_jobs : Int32} {b_over : Int32} {b_clocks : Int32} {b_held : Bool}, some (b_jobs, b_over, b_clocks, b_held) = some o → WP g A (wBook g a0 a1 a2 a3 a4 a5 a6 a7 a8 b_jobs b_over b_clocks b_held b_kinds b_operands b_ties b_states b_gone b_toldIn b_broughtIn b_doneIn) H → va_S A s.heap H locs → decode cX1_clear pc = .ok (.return_, 1) → W p l e rm_X1_clear s m args below meth c H locs 0 0 Q (F0 m pc ls []) := by
    intro H locs pc ls b_jobs b_over b_clocks b_held h hP hS hd
    cases h
    exact ret hP hS hd
  unfold f_X1_clear at h
  refine lv_aload_n hx hb dX1_clear_0 rfl (lv_at hl 0 rfl) ?_
  refine lv_iconst (v := 0) hx hb dX1_clear_1 rfl ?_
  refine pf_X1_36_Book_0 (v0 := (0 : Int32)) X hP hS dX1_clear_2 (fun H locs hP hS => ?_)
  refine lv_aload_n hx hb dX1_clear_5 rfl (lv_at hl 0 rfl) ?_
  refine lv_iconst (v := 0) hx hb dX1_clear_6 rfl ?_
  refine pf_X1_40_Book_0 (v0 := (0 : Int32)) X hP hS dX1_clear_7 (fun H locs hP hS => ?_)
  refine lv_aload_n hx hb dX1_clear_10 rfl (lv_at hl 0 rfl) ?_
  refine lv_iconst (v := 0) hx hb dX1_clear_11 rfl ?_
  refine pf_X1_43_Book_0 (v0 := (0 : Int32)) X hP hS dX1_clear_12 (fun H locs hP hS => ?_)
  refine lv_aload_n hx hb dX1_clear_15 rfl (lv_at hl 0 rfl) ?_
  refine lv_iconst (v := 0) hx hb dX1_clear_16 rfl ?_
  refine pf_X1_46_Book_0 (v0 := false) X hP hS dX1_clear_17 (fun H locs hP hS => ?_)
  exact ret h hP hS dX1_clear_20
abbrev rm_X1_copyFrom : Room := { frames := 1, cells := 0, slots := 0, locals := 60 }
set_option maxRecDepth 100000 in
set_option maxHeartbeats 4000000 in
theorem c_X1_copyFrom {g : gT} {l : Launch} {A : Nat → Prop} {a0 a1 a2 a3 a4 a5 a6 a7 a8 a9 a10 a11 a12 a13 a14 a15 a16 a17 : Nat} {b_jobs : Int32} {b_over : Int32} {b_clocks : Int32} {b_held : Bool} {b_kinds : Nat → Int32} {b_operands : Nat → Int32} {b_ties : Nat → Int32} {b_states : Nat → Int32} {b_gone : Nat → Int32} {b_toldIn : Nat → Int32} {b_broughtIn : Nat → Int32} {b_doneIn : Nat → Int32} {c_jobs : Int32} {c_over : Int32} {c_clocks : Int32} {c_held : Bool} {c_kinds : Nat → Int32} {c_operands : Nat → Int32} {c_ties : Nat → Int32} {c_states : Nat → Int32} {c_gone : Nat → Int32} {c_toldIn : Nat → Int32} {c_broughtIn : Nat → Int32} {c_doneIn : Nat → Int32}  {o : Int32 × Int32 × Int32 × Bool × (Nat → Int32) × (Nat → Int32) × (Nat → Int32) × (Nat → Int32) × (Nat → Int32) × (Nat → Int32) × (Nat → Int32) × (Nat → Int32)} (h : f_X1_copyFrom  b_jobs b_over b_clocks b_held b_kinds b_operands b_ties b_states b_gone b_toldIn b_broughtIn b_doneIn c_jobs c_over c_clocks c_held c_kinds c_operands c_ties c_states c_gone c_toldIn c_broughtIn c_doneIn = some o) : Std g l yX1_copyFrom (.code yX1_copyFrom cX1_copyFrom 2 none :: gw) rm_X1_copyFrom A [.ref a0, .ref a9] (wBB g a0 a1 a2 a3 a4 a5 a6 a7 a8 a9 a10 a11 a12 a13 a14 a15 a16 a17 b_jobs b_over b_clocks b_held b_kinds b_operands b_ties b_states b_gone b_toldIn b_broughtIn b_doneIn c_jobs c_over c_clocks c_held c_kinds c_operands c_ties c_states c_gone c_toldIn c_broughtIn c_doneIn) (wBB g a0 a1 a2 a3 a4 a5 a6 a7 a8 a9 a10 a11 a12 a13 a14 a15 a16 a17 o.1 o.2.1 o.2.2.1 o.2.2.2.1 o.2.2.2.2.1 o.2.2.2.2.2.1 o.2.2.2.2.2.2.1 o.2.2.2.2.2.2.2.1 o.2.2.2.2.2.2.2.2.1 o.2.2.2.2.2.2.2.2.2.1 o.2.2.2.2.2.2.2.2.2.2.1 o.2.2.2.2.2.2.2.2.2.2.2 c_jobs c_over c_clocks c_held c_kinds c_operands c_ties c_states c_gone c_toldIn c_broughtIn c_doneIn) none := by
  refine std_v (own := RX1) (by decide +kernel) rfl (Nat.le_of_ble_eq_true rfl) ?_
  intro p e s m args below meth c Q X ret H locs hP hS ls hl
  have hx := X.1
  have hb := X.2.1
  have hl : lv_has ls 2 [(0, .ref a0), (1, .ref a9)] := hl
  have ret : ∀ {H : Heap} {locs : List Loc} {pc : Nat} {ls : Array Slot} {b_jobs : Int32} {b_over : Int32} {b_clocks : Int32} {b_held : Bool} {b_kinds : Nat → Int32} {b_operands : Nat → Int32} {b_ties : Nat → Int32} {b_states : Nat → Int32} {b_gone : Nat → Int32} {b_toldIn : Nat → Int32} {b_broughtIn : Nat → Int32} {b_doneIn : Nat → Int32}, some (b_jobs, b_over, b_clocks, b_held, b_kinds, b_operands, b_ties, b_states, b_gone, b_toldIn, b_broughtIn, b_doneIn) = some o → WP g A (wBB g a0 a1 a2 a3 a4 a5 a6 a7 a8 a9 a10 a11 a12 a13 a14 a15 a16 a17 b_jobs b_over b_clocks b_held b_kinds b_operands b_ties b_states b_gone b_toldIn b_broughtIn b_doneIn c_jobs c_over c_clocks c_held c_kinds c_operands c_ties c_states c_gone c_toldIn c_broughtIn c_doneIn) H → va_S A s.heap H locs → decode cX1_copyFrom pc = .ok (.return_, 1) → W p l e rm_X1_copyFrom s m args below meth c H locs 0 0 Q (F0 m pc ls []) := by
    intro H locs pc ls b_jobs b_over b_clocks b_held b_kinds b_operands b_ties b_states b_gone b_toldIn b_broughtIn b_doneIn h hP hS hd
    cases h
    exact ret hP hS hd
  unfold f_X1_copyFrom at h
  refine lv_aload_n hx hb dX1_copyFrom_0 rfl (lv_at hl 1 rfl) ?_
  refine gf_X1_9_BB_9 X hP dX1_copyFrom_1 ?_
  refine lv_iconst (v := 0) hx hb dX1_copyFrom_4 rfl ?_
  refine lv_aload_n hx hb dX1_copyFrom_5 rfl (lv_at hl 0 rfl) ?_
  refine gf_X1_9_BB_0 X hP dX1_copyFrom_6 ?_
  refine lv_iconst (v := 0) hx hb dX1_copyFrom_9 rfl ?_
  refine lv_bipush (v := 60) hx hb dX1_copyFrom_10 rfl ?_
  refine cp_X1_50_BB_10_1 X hl.1 hP hS (Nat.le_of_ble_eq_true rfl) (Nat.le_of_ble_eq_true rfl) dX1_copyFrom_12 (fun H locs hP hS => ?_)
  refine lv_aload_n hx hb dX1_copyFrom_15 rfl (lv_at hl 1 rfl) ?_
  refine gf_X1_15_BB_9 X hP dX1_copyFrom_16 ?_
  refine lv_iconst (v := 0) hx hb dX1_copyFrom_19 rfl ?_
  refine lv_aload_n hx hb dX1_copyFrom_20 rfl (lv_at hl 0 rfl) ?_
  refine gf_X1_15_BB_0 X hP dX1_copyFrom_21 ?_
  refine lv_iconst (v := 0) hx hb dX1_copyFrom_24 rfl ?_
  refine lv_sipush (v := 180) hx hb dX1_copyFrom_25 rfl ?_
  refine cp_X1_50_BB_11_2 X hl.1 hP hS (Nat.le_of_ble_eq_true rfl) (Nat.le_of_ble_eq_true rfl) dX1_copyFrom_28 (fun H locs hP hS => ?_)
  refine lv_aload_n hx hb dX1_copyFrom_31 rfl (lv_at hl 1 rfl) ?_
  refine gf_X1_18_BB_9 X hP dX1_copyFrom_32 ?_
  refine lv_iconst (v := 0) hx hb dX1_copyFrom_35 rfl ?_
  refine lv_aload_n hx hb dX1_copyFrom_36 rfl (lv_at hl 0 rfl) ?_
  refine gf_X1_18_BB_0 X hP dX1_copyFrom_37 ?_
  refine lv_iconst (v := 0) hx hb dX1_copyFrom_40 rfl ?_
  refine lv_sipush (v := 180) hx hb dX1_copyFrom_41 rfl ?_
  refine cp_X1_50_BB_12_3 X hl.1 hP hS (Nat.le_of_ble_eq_true rfl) (Nat.le_of_ble_eq_true rfl) dX1_copyFrom_44 (fun H locs hP hS => ?_)
  refine lv_aload_n hx hb dX1_copyFrom_47 rfl (lv_at hl 1 rfl) ?_
  refine gf_X1_21_BB_9 X hP dX1_copyFrom_48 ?_
  refine lv_iconst (v := 0) hx hb dX1_copyFrom_51 rfl ?_
  refine lv_aload_n hx hb dX1_copyFrom_52 rfl (lv_at hl 0 rfl) ?_
  refine gf_X1_21_BB_0 X hP dX1_copyFrom_53 ?_
  refine lv_iconst (v := 0) hx hb dX1_copyFrom_56 rfl ?_
  refine lv_bipush (v := 60) hx hb dX1_copyFrom_57 rfl ?_
  refine cp_X1_50_BB_13_4 X hl.1 hP hS (Nat.le_of_ble_eq_true rfl) (Nat.le_of_ble_eq_true rfl) dX1_copyFrom_59 (fun H locs hP hS => ?_)
  refine lv_aload_n hx hb dX1_copyFrom_62 rfl (lv_at hl 1 rfl) ?_
  refine gf_X1_24_BB_9 X hP dX1_copyFrom_63 ?_
  refine lv_iconst (v := 0) hx hb dX1_copyFrom_66 rfl ?_
  refine lv_aload_n hx hb dX1_copyFrom_67 rfl (lv_at hl 0 rfl) ?_
  refine gf_X1_24_BB_0 X hP dX1_copyFrom_68 ?_
  refine lv_iconst (v := 0) hx hb dX1_copyFrom_71 rfl ?_
  refine lv_bipush (v := 60) hx hb dX1_copyFrom_72 rfl ?_
  refine cp_X1_50_BB_14_5 X hl.1 hP hS (Nat.le_of_ble_eq_true rfl) (Nat.le_of_ble_eq_true rfl) dX1_copyFrom_74 (fun H locs hP hS => ?_)
  refine lv_aload_n hx hb dX1_copyFrom_77 rfl (lv_at hl 1 rfl) ?_
  refine gf_X1_27_BB_9 X hP dX1_copyFrom_78 ?_
  refine lv_iconst (v := 0) hx hb dX1_copyFrom_81 rfl ?_
  refine lv_aload_n hx hb dX1_copyFrom_82 rfl (lv_at hl 0 rfl) ?_
  refine gf_X1_27_BB_0 X hP dX1_copyFrom_83 ?_
  refine lv_iconst (v := 0) hx hb dX1_copyFrom_86 rfl ?_
  refine lv_bipush (v := 60) hx hb dX1_copyFrom_87 rfl ?_
  refine cp_X1_50_BB_15_6 X hl.1 hP hS (Nat.le_of_ble_eq_true rfl) (Nat.le_of_ble_eq_true rfl) dX1_copyFrom_89 (fun H locs hP hS => ?_)
  refine lv_aload_n hx hb dX1_copyFrom_92 rfl (lv_at hl 1 rfl) ?_
  refine gf_X1_30_BB_9 X hP dX1_copyFrom_93 ?_
  refine lv_iconst (v := 0) hx hb dX1_copyFrom_96 rfl ?_
  refine lv_aload_n hx hb dX1_copyFrom_97 rfl (lv_at hl 0 rfl) ?_
  refine gf_X1_30_BB_0 X hP dX1_copyFrom_98 ?_
  refine lv_iconst (v := 0) hx hb dX1_copyFrom_101 rfl ?_
  refine lv_bipush (v := 60) hx hb dX1_copyFrom_102 rfl ?_
  refine cp_X1_50_BB_16_7 X hl.1 hP hS (Nat.le_of_ble_eq_true rfl) (Nat.le_of_ble_eq_true rfl) dX1_copyFrom_104 (fun H locs hP hS => ?_)
  refine lv_aload_n hx hb dX1_copyFrom_107 rfl (lv_at hl 1 rfl) ?_
  refine gf_X1_33_BB_9 X hP dX1_copyFrom_108 ?_
  refine lv_iconst (v := 0) hx hb dX1_copyFrom_111 rfl ?_
  refine lv_aload_n hx hb dX1_copyFrom_112 rfl (lv_at hl 0 rfl) ?_
  refine gf_X1_33_BB_0 X hP dX1_copyFrom_113 ?_
  refine lv_iconst (v := 0) hx hb dX1_copyFrom_116 rfl ?_
  refine lv_bipush (v := 60) hx hb dX1_copyFrom_117 rfl ?_
  refine cp_X1_50_BB_17_8 X hl.1 hP hS (Nat.le_of_ble_eq_true rfl) (Nat.le_of_ble_eq_true rfl) dX1_copyFrom_119 (fun H locs hP hS => ?_)
  refine lv_aload_n hx hb dX1_copyFrom_122 rfl (lv_at hl 0 rfl) ?_
  refine lv_aload_n hx hb dX1_copyFrom_123 rfl (lv_at hl 1 rfl) ?_
  refine gf_X1_36_BB_9 X hP dX1_copyFrom_124 ?_
  refine pf_X1_36_BB_0 (v0 := c_jobs) X hP hS dX1_copyFrom_127 (fun H locs hP hS => ?_)
  refine lv_aload_n hx hb dX1_copyFrom_130 rfl (lv_at hl 0 rfl) ?_
  refine lv_aload_n hx hb dX1_copyFrom_131 rfl (lv_at hl 1 rfl) ?_
  refine gf_X1_40_BB_9 X hP dX1_copyFrom_132 ?_
  refine pf_X1_40_BB_0 (v0 := c_over) X hP hS dX1_copyFrom_135 (fun H locs hP hS => ?_)
  refine lv_aload_n hx hb dX1_copyFrom_138 rfl (lv_at hl 0 rfl) ?_
  refine lv_aload_n hx hb dX1_copyFrom_139 rfl (lv_at hl 1 rfl) ?_
  refine gf_X1_43_BB_9 X hP dX1_copyFrom_140 ?_
  refine pf_X1_43_BB_0 (v0 := c_clocks) X hP hS dX1_copyFrom_143 (fun H locs hP hS => ?_)
  refine lv_aload_n hx hb dX1_copyFrom_146 rfl (lv_at hl 0 rfl) ?_
  refine lv_aload_n hx hb dX1_copyFrom_147 rfl (lv_at hl 1 rfl) ?_
  refine gf_X1_46_BB_9 X hP dX1_copyFrom_148 ?_
  refine pf_X1_46_BB_0 (v0 := c_held) X hP hS dX1_copyFrom_151 (fun H locs hP hS => ?_)
  exact ret h hP hS dX1_copyFrom_154
abbrev rm_X1_add : Room := { frames := 0, cells := 0, slots := 0, locals := 0 }
set_option maxRecDepth 100000 in
set_option maxHeartbeats 4000000 in
theorem c_X1_add {g : gT} {l : Launch} {A : Nat → Prop} {a0 a1 a2 a3 a4 a5 a6 a7 a8 : Nat} {b_jobs : Int32} {b_over : Int32} {b_clocks : Int32} {b_held : Bool} {b_kinds : Nat → Int32} {b_operands : Nat → Int32} {b_ties : Nat → Int32} {b_states : Nat → Int32} {b_gone : Nat → Int32} {b_toldIn : Nat → Int32} {b_broughtIn : Nat → Int32} {b_doneIn : Nat → Int32} {p0 : Int32} {p1 : Int32} {p2 : Int32} {p3 : Int32} {o : Int32 × Int32 × (Nat → Int32) × (Nat → Int32) × (Nat → Int32) × (Nat → Int32) × (Nat → Int32) × (Nat → Int32) × (Nat → Int32) × (Nat → Int32)} (h : f_X1_add p0 p1 p2 p3 b_jobs b_clocks b_kinds b_operands b_ties b_states b_gone b_toldIn b_broughtIn b_doneIn = some o) : Std g l yX1_add (.code yX1_add cX1_add 7 (some .int) :: gw) rm_X1_add A [.ref a0, .int p0, .int p1, .int p2, .int p3] (wBook g a0 a1 a2 a3 a4 a5 a6 a7 a8 b_jobs b_over b_clocks b_held b_kinds b_operands b_ties b_states b_gone b_toldIn b_broughtIn b_doneIn) (wBook g a0 a1 a2 a3 a4 a5 a6 a7 a8 o.2.1 b_over b_clocks b_held o.2.2.1 o.2.2.2.1 o.2.2.2.2.1 o.2.2.2.2.2.1 o.2.2.2.2.2.2.1 o.2.2.2.2.2.2.2.1 o.2.2.2.2.2.2.2.2.1 o.2.2.2.2.2.2.2.2.2) (some (.int o.1)) := by
  refine std_i (own := RX1) (by decide +kernel) rfl (Nat.le_of_ble_eq_true rfl) ?_
  intro p e s m args below meth c Q X ret H locs hP hS ls hl
  have hx := X.1
  have hb := X.2.1
  have hl : lv_has ls 7 [(0, .ref a0), (1, .int p0), (2, .int p1), (3, .int p2), (4, .int p3)] := hl
  have ret : ∀ {H : Heap} {locs : List Loc} {pc : Nat} {ls : Array Slot} {v : Int32} {b_jobs : Int32} {b_kinds : Nat → Int32} {b_operands : Nat → Int32} {b_ties : Nat → Int32} {b_states : Nat → Int32} {b_gone : Nat → Int32} {b_toldIn : Nat → Int32} {b_broughtIn : Nat → Int32} {b_doneIn : Nat → Int32}, some (v, b_jobs, b_kinds, b_operands, b_ties, b_states, b_gone, b_toldIn, b_broughtIn, b_doneIn) = some o → WP g A (wBook g a0 a1 a2 a3 a4 a5 a6 a7 a8 b_jobs b_over b_clocks b_held b_kinds b_operands b_ties b_states b_gone b_toldIn b_broughtIn b_doneIn) H → va_S A s.heap H locs → decode cX1_add pc = .ok (.ireturn, 1) → W p l e rm_X1_add s m args below meth c H locs 0 0 Q (F0 m pc ls [.int v]) := by
    intro H locs pc ls v b_jobs b_kinds b_operands b_ties b_states b_gone b_toldIn b_broughtIn b_doneIn h hP hS hd
    cases h
    exact ret hP hS hd
  have l73 : ∀ (n : Nat), ∀ (x5 : Int32) (x6 : Int32) (b_jobs : Int32) (b_kinds : Nat → Int32) (b_operands : Nat → Int32) (b_ties : Nat → Int32) (b_states : Nat → Int32) (b_gone : Nat → Int32) (b_toldIn : Nat → Int32) (b_broughtIn : Nat → Int32) (b_doneIn : Nat → Int32) (H : Heap) (locs : List Loc) (ls : Array Slot), f_X1_add_l73  b_clocks  n x5 x6 b_jobs b_kinds b_operands b_ties b_states b_gone b_toldIn b_broughtIn b_doneIn = some o → WP g A (wBook g a0 a1 a2 a3 a4 a5 a6 a7 a8 b_jobs b_over b_clocks b_held b_kinds b_operands b_ties b_states b_gone b_toldIn b_broughtIn b_doneIn) H → va_S A s.heap H locs → lv_has ls 7 [(0, .ref a0), (5, .int x5), (6, .int x6)] → W p l e rm_X1_add s m args below meth c H locs 0 0 Q (F0 m 73 ls []) := by
    intro  n
    induction n with
    | zero =>
      intro x5 x6 b_jobs b_kinds b_operands b_ties b_states b_gone b_toldIn b_broughtIn b_doneIn H locs ls h
      exact nz_of h
    | succ n ih =>
      intro x5 x6 b_jobs b_kinds b_operands b_ties b_states b_gone b_toldIn b_broughtIn b_doneIn H locs ls h hP hS hl
      rw [f_X1_add_l73] at h
      refine lv_iload hx hb dX1_add_73 (lv_at hl 2 rfl) ?_
      refine lv_iconst (v := 3) hx hb dX1_add_75 rfl ?_
      refine lv_icmp_ge (tgt := 98) hx hb dX1_add_76 rfl (fun c76 => ?_) (fun c76 => ?_)
      · have h := br_p c76 h
        refine lv_aload_n hx hb dX1_add_98 rfl (lv_at hl 0 rfl) ?_
        refine gf_X1_21_Book_0 X hP dX1_add_99 ?_
        refine lv_iload hx hb dX1_add_102 (lv_at hl 1 rfl) ?_
        refine lv_iconst (v := 0) hx hb dX1_add_104 rfl ?_
        obtain ⟨hi105, h⟩ := gv_of h
        refine as_Book_4 (v0 := (0 : Int32)) X hP hS hi105 dX1_add_105 (fun H locs hP hS => ?_)
        refine lv_aload_n hx hb dX1_add_106 rfl (lv_at hl 0 rfl) ?_
        refine gf_X1_24_Book_0 X hP dX1_add_107 ?_
        refine lv_iload hx hb dX1_add_110 (lv_at hl 1 rfl) ?_
        refine lv_iconst (v := 0) hx hb dX1_add_112 rfl ?_
        obtain ⟨hi113, h⟩ := gv_of h
        refine as_Book_5 (v0 := (0 : Int32)) X hP hS hi113 dX1_add_113 (fun H locs hP hS => ?_)
        refine lv_aload_n hx hb dX1_add_114 rfl (lv_at hl 0 rfl) ?_
        refine gf_X1_27_Book_0 X hP dX1_add_115 ?_
        refine lv_iload hx hb dX1_add_118 (lv_at hl 1 rfl) ?_
        refine lv_aload_n hx hb dX1_add_120 rfl (lv_at hl 0 rfl) ?_
        refine gf_X1_43_Book_0 X hP dX1_add_121 ?_
        obtain ⟨hi124, h⟩ := gv_of h
        refine as_Book_6 (v0 := b_clocks) X hP hS hi124 dX1_add_124 (fun H locs hP hS => ?_)
        refine lv_aload_n hx hb dX1_add_125 rfl (lv_at hl 0 rfl) ?_
        refine gf_X1_30_Book_0 X hP dX1_add_126 ?_
        refine lv_iload hx hb dX1_add_129 (lv_at hl 1 rfl) ?_
        refine lv_iconst (v := (-1)) hx hb dX1_add_131 rfl ?_
        obtain ⟨hi132, h⟩ := gv_of h
        refine as_Book_7 (v0 := (-1 : Int32)) X hP hS hi132 dX1_add_132 (fun H locs hP hS => ?_)
        refine lv_aload_n hx hb dX1_add_133 rfl (lv_at hl 0 rfl) ?_
        refine gf_X1_33_Book_0 X hP dX1_add_134 ?_
        refine lv_iload hx hb dX1_add_137 (lv_at hl 1 rfl) ?_
        refine lv_iconst (v := (-1)) hx hb dX1_add_139 rfl ?_
        obtain ⟨hi140, h⟩ := gv_of h
        refine as_Book_8 (v0 := (-1 : Int32)) X hP hS hi140 dX1_add_140 (fun H locs hP hS => ?_)
        refine lv_iload hx hb dX1_add_141 (lv_at hl 1 rfl) ?_
        exact ret h hP hS dX1_add_143
      · have h := br_n c76 h
        refine lv_aload_n hx hb dX1_add_79 rfl (lv_at hl 0 rfl) ?_
        refine gf_X1_18_Book_0 X hP dX1_add_80 ?_
        refine lv_iload hx hb dX1_add_83 (lv_at hl 1 rfl) ?_
        refine lv_iconst (v := 3) hx hb dX1_add_85 rfl ?_
        refine lv_imul hx hb dX1_add_86 ?_
        refine lv_iload hx hb dX1_add_87 (lv_at hl 2 rfl) ?_
        refine lv_iadd hx hb dX1_add_89 ?_
        refine lv_iconst (v := (-1)) hx hb dX1_add_90 rfl ?_
        obtain ⟨hi91, h⟩ := gv_of h
        refine as_Book_3 (v0 := (-1 : Int32)) X hP hS hi91 dX1_add_91 (fun H locs hP hS => ?_)
        obtain ⟨v2, ev2⟩ : ∃ z : Int32, z = (x6 + 1) := ⟨_, rfl⟩
        have h := lt_at ev2 h
        refine lv_iinc (v := v2) (lv' := [(6, .int v2), (0, .ref a0), (5, .int x5)]) hx hb dX1_add_92 hl (k := 2) rfl (by rw [ev2]; rfl) (by decide) rfl (fun ls hl => ?_)
        refine lv_goto (tgt := 73) hx hb dX1_add_95 rfl ?_
        exact ih x5 v2 b_jobs b_kinds b_operands (upd b_ties (((x5 * (3 : Int32)) + x6)).toNatClampNeg (-1 : Int32)) b_states b_gone b_toldIn b_broughtIn b_doneIn _ _ _ h hP hS (lv_sub hl [1, 2, 0] rfl)
  unfold f_X1_add at h
  refine lv_aload_n hx hb dX1_add_0 rfl (lv_at hl 0 rfl) ?_
  refine gf_X1_36_Book_0 X hP dX1_add_1 ?_
  refine lv_bipush (v := 60) hx hb dX1_add_4 rfl ?_
  refine lv_icmp_lt (tgt := 11) hx hb dX1_add_6 rfl (fun c6 => ?_) (fun c6 => ?_)
  · have h := br_p c6 h
    refine lv_aload_n hx hb dX1_add_11 rfl (lv_at hl 0 rfl) ?_
    refine gf_X1_36_Book_0 X hP dX1_add_12 ?_
    refine lv_istore (lv' := [(5, .int b_jobs), (0, .ref a0), (1, .int p0), (2, .int p1), (3, .int p2), (4, .int p3)]) hx hb dX1_add_15 hl (by decide) rfl (fun ls hl => ?_)
    refine lv_aload_n hx hb dX1_add_17 rfl (lv_at hl 1 rfl) ?_
    refine lv_dup hx hb dX1_add_18 rfl ?_
    refine gf_X1_36_Book_0 X hP dX1_add_19 ?_
    refine lv_iconst (v := 1) hx hb dX1_add_22 rfl ?_
    refine lv_iadd hx hb dX1_add_23 ?_
    refine lv_topi (fun v1 ev1 => ?_)
    have h := lt_at ev1 h
    refine pf_X1_36_Book_0 (v0 := v1) X hP hS dX1_add_24 (fun H locs hP hS => ?_)
    refine lv_aload_n hx hb dX1_add_27 rfl (lv_at hl 1 rfl) ?_
    refine gf_X1_9_Book_0 X hP dX1_add_28 ?_
    refine lv_iload hx hb dX1_add_31 (lv_at hl 0 rfl) ?_
    refine lv_iload_n hx hb dX1_add_33 rfl (lv_at hl 2 rfl) ?_
    obtain ⟨hi34, h⟩ := gv_of h
    refine as_Book_1 (v0 := p0) X hP hS hi34 dX1_add_34 (fun H locs hP hS => ?_)
    refine lv_aload_n hx hb dX1_add_35 rfl (lv_at hl 1 rfl) ?_
    refine gf_X1_15_Book_0 X hP dX1_add_36 ?_
    refine lv_iload hx hb dX1_add_39 (lv_at hl 0 rfl) ?_
    refine lv_iconst (v := 3) hx hb dX1_add_41 rfl ?_
    refine lv_imul hx hb dX1_add_42 ?_
    refine lv_iload_n hx hb dX1_add_43 rfl (lv_at hl 3 rfl) ?_
    obtain ⟨hi44, h⟩ := gv_of h
    refine as_Book_2 (v0 := p1) X hP hS hi44 dX1_add_44 (fun H locs hP hS => ?_)
    refine lv_aload_n hx hb dX1_add_45 rfl (lv_at hl 1 rfl) ?_
    refine gf_X1_15_Book_0 X hP dX1_add_46 ?_
    refine lv_iload hx hb dX1_add_49 (lv_at hl 0 rfl) ?_
    refine lv_iconst (v := 3) hx hb dX1_add_51 rfl ?_
    refine lv_imul hx hb dX1_add_52 ?_
    refine lv_iconst (v := 1) hx hb dX1_add_53 rfl ?_
    refine lv_iadd hx hb dX1_add_54 ?_
    refine lv_iload_n hx hb dX1_add_55 rfl (lv_at hl 4 rfl) ?_
    obtain ⟨hi56, h⟩ := gv_of h
    refine as_Book_2 (v0 := p2) X hP hS hi56 dX1_add_56 (fun H locs hP hS => ?_)
    refine lv_aload_n hx hb dX1_add_57 rfl (lv_at hl 1 rfl) ?_
    refine gf_X1_15_Book_0 X hP dX1_add_58 ?_
    refine lv_iload hx hb dX1_add_61 (lv_at hl 0 rfl) ?_
    refine lv_iconst (v := 3) hx hb dX1_add_63 rfl ?_
    refine lv_imul hx hb dX1_add_64 ?_
    refine lv_iconst (v := 2) hx hb dX1_add_65 rfl ?_
    refine lv_iadd hx hb dX1_add_66 ?_
    refine lv_iload hx hb dX1_add_67 (lv_at hl 5 rfl) ?_
    obtain ⟨hi69, h⟩ := gv_of h
    refine as_Book_2 (v0 := p3) X hP hS hi69 dX1_add_69 (fun H locs hP hS => ?_)
    refine lv_iconst (v := 0) hx hb dX1_add_70 rfl ?_
    refine lv_istore (lv' := [(6, .int 0), (5, .int b_jobs), (0, .ref a0), (1, .int p0), (2, .int p1), (3, .int p2), (4, .int p3)]) hx hb dX1_add_71 hl (by decide) rfl (fun ls hl => ?_)
    exact l73  FU b_jobs (0 : Int32) v1 (upd b_kinds (b_jobs).toNatClampNeg p0) (upd (upd (upd b_operands ((b_jobs * (3 : Int32))).toNatClampNeg p1) (((b_jobs * (3 : Int32)) + (1 : Int32))).toNatClampNeg p2) (((b_jobs * (3 : Int32)) + (2 : Int32))).toNatClampNeg p3) b_ties b_states b_gone b_toldIn b_broughtIn b_doneIn _ _ _ h hP hS (lv_sub hl [2, 1, 0] rfl)
  · have h := br_n c6 h
    refine lv_iconst (v := (-1)) hx hb dX1_add_9 rfl ?_
    exact ret h hP hS dX1_add_10
abbrev rm_X1_tie : Room := { frames := 0, cells := 0, slots := 0, locals := 0 }
set_option maxRecDepth 100000 in
set_option maxHeartbeats 4000000 in
theorem c_X1_tie {g : gT} {l : Launch} {A : Nat → Prop} {a0 a1 a2 a3 a4 a5 a6 a7 a8 : Nat} {b_jobs : Int32} {b_over : Int32} {b_clocks : Int32} {b_held : Bool} {b_kinds : Nat → Int32} {b_operands : Nat → Int32} {b_ties : Nat → Int32} {b_states : Nat → Int32} {b_gone : Nat → Int32} {b_toldIn : Nat → Int32} {b_broughtIn : Nat → Int32} {b_doneIn : Nat → Int32} {p0 : Int32} {p1 : Int32} {p2 : Int32} {o : (Nat → Int32) × (Nat → Int32)} (h : f_X1_tie p0 p1 p2 b_operands b_ties = some o) : Std g l yX1_tie (.code yX1_tie cX1_tie 4 none :: gw) rm_X1_tie A [.ref a0, .int p0, .int p1, .int p2] (wBook g a0 a1 a2 a3 a4 a5 a6 a7 a8 b_jobs b_over b_clocks b_held b_kinds b_operands b_ties b_states b_gone b_toldIn b_broughtIn b_doneIn) (wBook g a0 a1 a2 a3 a4 a5 a6 a7 a8 b_jobs b_over b_clocks b_held b_kinds o.1 o.2 b_states b_gone b_toldIn b_broughtIn b_doneIn) none := by
  refine std_v (own := RX1) (by decide +kernel) rfl (Nat.le_of_ble_eq_true rfl) ?_
  intro p e s m args below meth c Q X ret H locs hP hS ls hl
  have hx := X.1
  have hb := X.2.1
  have hl : lv_has ls 4 [(0, .ref a0), (1, .int p0), (2, .int p1), (3, .int p2)] := hl
  have ret : ∀ {H : Heap} {locs : List Loc} {pc : Nat} {ls : Array Slot} {b_operands : Nat → Int32} {b_ties : Nat → Int32}, some (b_operands, b_ties) = some o → WP g A (wBook g a0 a1 a2 a3 a4 a5 a6 a7 a8 b_jobs b_over b_clocks b_held b_kinds b_operands b_ties b_states b_gone b_toldIn b_broughtIn b_doneIn) H → va_S A s.heap H locs → decode cX1_tie pc = .ok (.return_, 1) → W p l e rm_X1_tie s m args below meth c H locs 0 0 Q (F0 m pc ls []) := by
    intro H locs pc ls b_operands b_ties h hP hS hd
    cases h
    exact ret hP hS hd
  unfold f_X1_tie at h
  refine lv_aload_n hx hb dX1_tie_0 rfl (lv_at hl 0 rfl) ?_
  refine gf_X1_18_Book_0 X hP dX1_tie_1 ?_
  refine lv_iload_n hx hb dX1_tie_4 rfl (lv_at hl 1 rfl) ?_
  refine lv_iconst (v := 3) hx hb dX1_tie_5 rfl ?_
  refine lv_imul hx hb dX1_tie_6 ?_
  refine lv_iload_n hx hb dX1_tie_7 rfl (lv_at hl 2 rfl) ?_
  refine lv_iadd hx hb dX1_tie_8 ?_
  refine lv_iload_n hx hb dX1_tie_9 rfl (lv_at hl 3 rfl) ?_
  obtain ⟨hi10, h⟩ := gv_of h
  refine as_Book_3 (v0 := p2) X hP hS hi10 dX1_tie_10 (fun H locs hP hS => ?_)
  refine lv_aload_n hx hb dX1_tie_11 rfl (lv_at hl 0 rfl) ?_
  refine gf_X1_15_Book_0 X hP dX1_tie_12 ?_
  refine lv_iload_n hx hb dX1_tie_15 rfl (lv_at hl 1 rfl) ?_
  refine lv_iconst (v := 3) hx hb dX1_tie_16 rfl ?_
  refine lv_imul hx hb dX1_tie_17 ?_
  refine lv_iload_n hx hb dX1_tie_18 rfl (lv_at hl 2 rfl) ?_
  refine lv_iadd hx hb dX1_tie_19 ?_
  refine lv_iconst (v := 0) hx hb dX1_tie_20 rfl ?_
  obtain ⟨hi21, h⟩ := gv_of h
  refine as_Book_2 (v0 := (0 : Int32)) X hP hS hi21 dX1_tie_21 (fun H locs hP hS => ?_)
  exact ret h hP hS dX1_tie_22
abbrev rm_X1_howMany : Room := { frames := 0, cells := 0, slots := 0, locals := 0 }
set_option maxRecDepth 100000 in
set_option maxHeartbeats 4000000 in
theorem c_X1_howMany {g : gT} {l : Launch} {A : Nat → Prop} {a0 a1 a2 a3 a4 a5 a6 a7 a8 : Nat} {b_jobs : Int32} {b_over : Int32} {b_clocks : Int32} {b_held : Bool} {b_kinds : Nat → Int32} {b_operands : Nat → Int32} {b_ties : Nat → Int32} {b_states : Nat → Int32} {b_gone : Nat → Int32} {b_toldIn : Nat → Int32} {b_broughtIn : Nat → Int32} {b_doneIn : Nat → Int32} {p0 : Int32} {o : Int32} (h : f_X1_howMany p0 b_jobs b_states = some o) : Std g l yX1_howMany (.code yX1_howMany cX1_howMany 4 (some .int) :: gw) rm_X1_howMany A [.ref a0, .int p0] (wBook g a0 a1 a2 a3 a4 a5 a6 a7 a8 b_jobs b_over b_clocks b_held b_kinds b_operands b_ties b_states b_gone b_toldIn b_broughtIn b_doneIn) (wBook g a0 a1 a2 a3 a4 a5 a6 a7 a8 b_jobs b_over b_clocks b_held b_kinds b_operands b_ties b_states b_gone b_toldIn b_broughtIn b_doneIn) (some (.int o)) := by
  refine std_i (own := RX1) (by decide +kernel) rfl (Nat.le_of_ble_eq_true rfl) ?_
  intro p e s m args below meth c Q X ret H locs hP hS ls hl
  have hx := X.1
  have hb := X.2.1
  have hl : lv_has ls 4 [(0, .ref a0), (1, .int p0)] := hl
  have ret : ∀ {H : Heap} {locs : List Loc} {pc : Nat} {ls : Array Slot} {v : Int32} , some (v) = some o → WP g A (wBook g a0 a1 a2 a3 a4 a5 a6 a7 a8 b_jobs b_over b_clocks b_held b_kinds b_operands b_ties b_states b_gone b_toldIn b_broughtIn b_doneIn) H → va_S A s.heap H locs → decode cX1_howMany pc = .ok (.ireturn, 1) → W p l e rm_X1_howMany s m args below meth c H locs 0 0 Q (F0 m pc ls [.int v]) := by
    intro H locs pc ls v h hP hS hd
    cases h
    exact ret hP hS hd
  have l4 : ∀ (n : Nat), ∀ (x1 : Int32) (x2 : Int32) (x3 : Int32) (H : Heap) (locs : List Loc) (ls : Array Slot), f_X1_howMany_l4  b_jobs b_states  n x1 x2 x3 = some o → WP g A (wBook g a0 a1 a2 a3 a4 a5 a6 a7 a8 b_jobs b_over b_clocks b_held b_kinds b_operands b_ties b_states b_gone b_toldIn b_broughtIn b_doneIn) H → va_S A s.heap H locs → lv_has ls 4 [(0, .ref a0), (1, .int x1), (2, .int x2), (3, .int x3)] → W p l e rm_X1_howMany s m args below meth c H locs 0 0 Q (F0 m 4 ls []) := by
    intro  n
    induction n with
    | zero =>
      intro x1 x2 x3 H locs ls h
      exact nz_of h
    | succ n ih =>
      intro x1 x2 x3 H locs ls h hP hS hl
      rw [f_X1_howMany_l4] at h
      refine lv_iload_n hx hb dX1_howMany_4 rfl (lv_at hl 3 rfl) ?_
      refine lv_aload_n hx hb dX1_howMany_5 rfl (lv_at hl 0 rfl) ?_
      refine gf_X1_36_Book_0 X hP dX1_howMany_6 ?_
      refine lv_icmp_ge (tgt := 36) hx hb dX1_howMany_9 rfl (fun c9 => ?_) (fun c9 => ?_)
      · have h := br_p c9 h
        refine lv_iload_n hx hb dX1_howMany_36 rfl (lv_at hl 2 rfl) ?_
        exact ret h hP hS dX1_howMany_37
      · have h := br_n c9 h
        refine lv_iload_n hx hb dX1_howMany_12 rfl (lv_at hl 2 rfl) ?_
        refine lv_aload_n hx hb dX1_howMany_13 rfl (lv_at hl 0 rfl) ?_
        refine gf_X1_21_Book_0 X hP dX1_howMany_14 ?_
        refine lv_iload_n hx hb dX1_howMany_17 rfl (lv_at hl 3 rfl) ?_
        obtain ⟨hi18, h⟩ := gv_of h
        refine al_Book_4 X hP hi18 dX1_howMany_18 ?_
        refine lv_iload_n hx hb dX1_howMany_19 rfl (lv_at hl 1 rfl) ?_
        refine jx1 h (P := fun (v1 : Bool) => ∀ ls : Array Slot, lv_has ls 4 [(0, .ref a0), (1, .int x1), (3, .int x3)] → W p l e rm_X1_howMany s m args below meth c H locs 0 0 Q (F0 m 28 ls [.int (bI v1), .int x2])) ?_ ?_
        · intro v1 h ls hl
          refine lv_iadd hx hb dX1_howMany_28 ?_
          refine lv_topi (fun v2 ev2 => ?_)
          have h := lt_at ev2 h
          refine lv_istore_n (lv' := [(2, .int v2), (0, .ref a0), (1, .int x1), (3, .int x3)]) hx hb dX1_howMany_29 rfl hl (by decide) rfl (fun ls hl => ?_)
          obtain ⟨v3, ev3⟩ : ∃ z : Int32, z = (x3 + 1) := ⟨_, rfl⟩
          have h := lt_at ev3 h
          refine lv_iinc (v := v3) (lv' := [(3, .int v3), (2, .int v2), (0, .ref a0), (1, .int x1)]) hx hb dX1_howMany_30 hl (k := 3) rfl (by rw [ev3]; rfl) (by decide) rfl (fun ls hl => ?_)
          refine lv_goto (tgt := 4) hx hb dX1_howMany_33 rfl ?_
          exact ih x1 v2 v3 _ _ _ h hP hS (lv_sub hl [2, 3, 1, 0] rfl)
        · intro J h
          refine lv_icmp_ne (tgt := 27) hx hb dX1_howMany_20 rfl (fun c20 => ?_) (fun c20 => ?_)
          · refine lv_iconst (v := 0) hx hb dX1_howMany_27 rfl ?_
            exact J _ (lt_in c20 h) ls (lv_sub hl [0, 1, 3] rfl)
          · refine lv_iconst (v := 1) hx hb dX1_howMany_23 rfl ?_
            refine lv_goto (tgt := 28) hx hb dX1_howMany_24 rfl ?_
            exact J _ (lt_ip c20 h) ls (lv_sub hl [0, 1, 3] rfl)
  unfold f_X1_howMany at h
  refine lv_iconst (v := 0) hx hb dX1_howMany_0 rfl ?_
  refine lv_istore_n (lv' := [(2, .int 0), (0, .ref a0), (1, .int p0)]) hx hb dX1_howMany_1 rfl hl (by decide) rfl (fun ls hl => ?_)
  refine lv_iconst (v := 0) hx hb dX1_howMany_2 rfl ?_
  refine lv_istore_n (lv' := [(3, .int 0), (2, .int 0), (0, .ref a0), (1, .int p0)]) hx hb dX1_howMany_3 rfl hl (by decide) rfl (fun ls hl => ?_)
  exact l4  FU p0 (0 : Int32) (0 : Int32) _ _ _ h hP hS (lv_sub hl [2, 3, 1, 0] rfl)
abbrev rm_X1_isBusy : Room := { frames := 0, cells := 0, slots := 0, locals := 0 }
set_option maxRecDepth 100000 in
set_option maxHeartbeats 4000000 in
theorem c_X1_isBusy {g : gT} {l : Launch} {A : Nat → Prop} {a0 a1 a2 a3 a4 a5 a6 a7 a8 : Nat} {b_jobs : Int32} {b_over : Int32} {b_clocks : Int32} {b_held : Bool} {b_kinds : Nat → Int32} {b_operands : Nat → Int32} {b_ties : Nat → Int32} {b_states : Nat → Int32} {b_gone : Nat → Int32} {b_toldIn : Nat → Int32} {b_broughtIn : Nat → Int32} {b_doneIn : Nat → Int32}  {o : Bool × Int32} (h : f_X1_isBusy  b_jobs b_over b_states = some o) : Std g l yX1_isBusy (.code yX1_isBusy cX1_isBusy 1 (some .boolean) :: gw) rm_X1_isBusy A [.ref a0] (wBook g a0 a1 a2 a3 a4 a5 a6 a7 a8 b_jobs b_over b_clocks b_held b_kinds b_operands b_ties b_states b_gone b_toldIn b_broughtIn b_doneIn) (wBook g a0 a1 a2 a3 a4 a5 a6 a7 a8 b_jobs o.2 b_clocks b_held b_kinds b_operands b_ties b_states b_gone b_toldIn b_broughtIn b_doneIn) (some (.int (bI o.1))) := by
  refine std_z (own := RX1) (by decide +kernel) rfl (Nat.le_of_ble_eq_true rfl) ?_
  intro p e s m args below meth c Q X ret H locs hP hS ls hl
  have hx := X.1
  have hb := X.2.1
  have hl : lv_has ls 1 [(0, .ref a0)] := hl
  have ret : ∀ {H : Heap} {locs : List Loc} {pc : Nat} {ls : Array Slot} {v : Bool} {b_over : Int32}, some (v, b_over) = some o → WP g A (wBook g a0 a1 a2 a3 a4 a5 a6 a7 a8 b_jobs b_over b_clocks b_held b_kinds b_operands b_ties b_states b_gone b_toldIn b_broughtIn b_doneIn) H → va_S A s.heap H locs → decode cX1_isBusy pc = .ok (.ireturn, 1) → W p l e rm_X1_isBusy s m args below meth c H locs 0 0 Q (F0 m pc ls [.int (bI v)]) := by
    intro H locs pc ls v b_over h hP hS hd
    cases h
    exact ret hP hS hd
  have b50 : ∀ (b_over : Int32) (H : Heap) (locs : List Loc) (ls : Array Slot), f_X1_isBusy_b50  b_jobs b_states  b_over = some o → WP g A (wBook g a0 a1 a2 a3 a4 a5 a6 a7 a8 b_jobs b_over b_clocks b_held b_kinds b_operands b_ties b_states b_gone b_toldIn b_broughtIn b_doneIn) H → va_S A s.heap H locs → lv_has ls 1 [(0, .ref a0)] → W p l e rm_X1_isBusy s m args below meth c H locs 0 0 Q (F0 m 50 ls []) := by
    intro  b_over H locs ls h hP hS hl
    unfold f_X1_isBusy_b50 at h
    refine lv_aload_n hx hb dX1_isBusy_50 rfl (lv_at hl 0 rfl) ?_
    refine gf_X1_40_Book_0 X hP dX1_isBusy_51 ?_
    refine lv_aload_n hx hb dX1_isBusy_54 rfl (lv_at hl 0 rfl) ?_
    refine gf_X1_36_Book_0 X hP dX1_isBusy_55 ?_
    refine jx1 h (P := fun (v1 : Bool) => ∀ ls : Array Slot, lv_has ls 1 [] → W p l e rm_X1_isBusy s m args below meth c H locs 0 0 Q (F0 m 66 ls [.int (bI v1)])) ?_ ?_
    · intro v1 h ls hl
      exact ret h hP hS dX1_isBusy_66
    · intro J h
      refine lv_icmp_ge (tgt := 65) hx hb dX1_isBusy_58 rfl (fun c58 => ?_) (fun c58 => ?_)
      · refine lv_iconst (v := 0) hx hb dX1_isBusy_65 rfl ?_
        exact J _ (lt_ip c58 h) ls (lv_sub hl [] rfl)
      · refine lv_iconst (v := 1) hx hb dX1_isBusy_61 rfl ?_
        refine lv_goto (tgt := 66) hx hb dX1_isBusy_62 rfl ?_
        exact J _ (lt_in c58 h) ls (lv_sub hl [] rfl)
  have b37 : ∀ (k0 : Int32 → Option (Bool × Int32)) (hk0 : ∀ (b_over : Int32) (H : Heap) (locs : List Loc) (ls : Array Slot), k0 b_over = some o → WP g A (wBook g a0 a1 a2 a3 a4 a5 a6 a7 a8 b_jobs b_over b_clocks b_held b_kinds b_operands b_ties b_states b_gone b_toldIn b_broughtIn b_doneIn) H → va_S A s.heap H locs → lv_has ls 1 [(0, .ref a0)] → W p l e rm_X1_isBusy s m args below meth c H locs 0 0 Q (F0 m 0 ls [])) , ∀ (b_over : Int32) (H : Heap) (locs : List Loc) (ls : Array Slot), f_X1_isBusy_b37  b_jobs b_states k0 b_over = some o → WP g A (wBook g a0 a1 a2 a3 a4 a5 a6 a7 a8 b_jobs b_over b_clocks b_held b_kinds b_operands b_ties b_states b_gone b_toldIn b_broughtIn b_doneIn) H → va_S A s.heap H locs → lv_has ls 1 [(0, .ref a0)] → W p l e rm_X1_isBusy s m args below meth c H locs 0 0 Q (F0 m 37 ls []) := by
    intro k0 hk0 b_over H locs ls h hP hS hl
    unfold f_X1_isBusy_b37 at h
    refine lv_aload_n hx hb dX1_isBusy_37 rfl (lv_at hl 0 rfl) ?_
    refine lv_dup hx hb dX1_isBusy_38 rfl ?_
    refine gf_X1_40_Book_0 X hP dX1_isBusy_39 ?_
    refine lv_iconst (v := 1) hx hb dX1_isBusy_42 rfl ?_
    refine lv_iadd hx hb dX1_isBusy_43 ?_
    refine lv_topi (fun v2 ev2 => ?_)
    have h := lt_at ev2 h
    refine pf_X1_40_Book_0 (v0 := v2) X hP hS dX1_isBusy_44 (fun H locs hP hS => ?_)
    refine lv_goto (tgt := 0) hx hb dX1_isBusy_47 rfl ?_
    exact hk0 v2 _ _ _ h hP hS (lv_sub hl [0] rfl)
  have l0 : ∀ (n : Nat), ∀ (b_over : Int32) (H : Heap) (locs : List Loc) (ls : Array Slot), f_X1_isBusy_l0  b_jobs b_states  n b_over = some o → WP g A (wBook g a0 a1 a2 a3 a4 a5 a6 a7 a8 b_jobs b_over b_clocks b_held b_kinds b_operands b_ties b_states b_gone b_toldIn b_broughtIn b_doneIn) H → va_S A s.heap H locs → lv_has ls 1 [(0, .ref a0)] → W p l e rm_X1_isBusy s m args below meth c H locs 0 0 Q (F0 m 0 ls []) := by
    intro  n
    induction n with
    | zero =>
      intro b_over H locs ls h
      exact nz_of h
    | succ n ih =>
      intro b_over H locs ls h hP hS hl
      rw [f_X1_isBusy_l0] at h
      refine lv_aload_n hx hb dX1_isBusy_0 rfl (lv_at hl 0 rfl) ?_
      refine gf_X1_40_Book_0 X hP dX1_isBusy_1 ?_
      refine lv_aload_n hx hb dX1_isBusy_4 rfl (lv_at hl 0 rfl) ?_
      refine gf_X1_36_Book_0 X hP dX1_isBusy_5 ?_
      refine lv_icmp_ge (tgt := 50) hx hb dX1_isBusy_8 rfl (fun c8 => ?_) (fun c8 => ?_)
      · have h := br_p c8 h
        exact b50   b_over _ _ _ h hP hS (lv_sub hl [0] rfl)
      · have h := br_n c8 h
        refine lv_aload_n hx hb dX1_isBusy_11 rfl (lv_at hl 0 rfl) ?_
        refine gf_X1_21_Book_0 X hP dX1_isBusy_12 ?_
        refine lv_aload_n hx hb dX1_isBusy_15 rfl (lv_at hl 0 rfl) ?_
        refine gf_X1_40_Book_0 X hP dX1_isBusy_16 ?_
        obtain ⟨hi19, h⟩ := gv_of h
        refine al_Book_4 X hP hi19 dX1_isBusy_19 ?_
        refine lv_iconst (v := 2) hx hb dX1_isBusy_20 rfl ?_
        refine lv_icmp_eq (tgt := 37) hx hb dX1_isBusy_21 rfl (fun c21 => ?_) (fun c21 => ?_)
        · have h := br_p c21 h
          exact b37 (f_X1_isBusy_l0  b_jobs b_states  n) ih  b_over _ _ _ h hP hS (lv_sub hl [0] rfl)
        · have h := br_n c21 h
          refine lv_aload_n hx hb dX1_isBusy_24 rfl (lv_at hl 0 rfl) ?_
          refine gf_X1_21_Book_0 X hP dX1_isBusy_25 ?_
          refine lv_aload_n hx hb dX1_isBusy_28 rfl (lv_at hl 0 rfl) ?_
          refine gf_X1_40_Book_0 X hP dX1_isBusy_29 ?_
          obtain ⟨hi32, h⟩ := gv_of h
          refine al_Book_4 X hP hi32 dX1_isBusy_32 ?_
          refine lv_iconst (v := 3) hx hb dX1_isBusy_33 rfl ?_
          refine lv_icmp_ne (tgt := 50) hx hb dX1_isBusy_34 rfl (fun c34 => ?_) (fun c34 => ?_)
          · have h := br_n c34 h
            exact b50   b_over _ _ _ h hP hS (lv_sub hl [0] rfl)
          · have h := br_p c34 h
            exact b37 (f_X1_isBusy_l0  b_jobs b_states  n) ih  b_over _ _ _ h hP hS (lv_sub hl [0] rfl)
  unfold f_X1_isBusy at h
  exact l0  FU b_over _ _ _ h hP hS (lv_sub hl [0] rfl)
abbrev rm_X1_waiting : Room := { frames := 0, cells := 0, slots := 0, locals := 0 }
set_option maxRecDepth 100000 in
set_option maxHeartbeats 4000000 in
theorem c_X1_waiting {g : gT} {l : Launch} {A : Nat → Prop} {a0 a1 a2 a3 a4 a5 a6 a7 a8 : Nat} {b_jobs : Int32} {b_over : Int32} {b_clocks : Int32} {b_held : Bool} {b_kinds : Nat → Int32} {b_operands : Nat → Int32} {b_ties : Nat → Int32} {b_states : Nat → Int32} {b_gone : Nat → Int32} {b_toldIn : Nat → Int32} {b_broughtIn : Nat → Int32} {b_doneIn : Nat → Int32} {p0 : Int32} {o : Int32} (h : f_X1_waiting p0 b_jobs b_over b_states = some o) : Std g l yX1_waiting (.code yX1_waiting cX1_waiting 4 (some .int) :: gw) rm_X1_waiting A [.ref a0, .int p0] (wBook g a0 a1 a2 a3 a4 a5 a6 a7 a8 b_jobs b_over b_clocks b_held b_kinds b_operands b_ties b_states b_gone b_toldIn b_broughtIn b_doneIn) (wBook g a0 a1 a2 a3 a4 a5 a6 a7 a8 b_jobs b_over b_clocks b_held b_kinds b_operands b_ties b_states b_gone b_toldIn b_broughtIn b_doneIn) (some (.int o)) := by
  refine std_i (own := RX1) (by decide +kernel) rfl (Nat.le_of_ble_eq_true rfl) ?_
  intro p e s m args below meth c Q X ret H locs hP hS ls hl
  have hx := X.1
  have hb := X.2.1
  have hl : lv_has ls 4 [(0, .ref a0), (1, .int p0)] := hl
  have ret : ∀ {H : Heap} {locs : List Loc} {pc : Nat} {ls : Array Slot} {v : Int32} , some (v) = some o → WP g A (wBook g a0 a1 a2 a3 a4 a5 a6 a7 a8 b_jobs b_over b_clocks b_held b_kinds b_operands b_ties b_states b_gone b_toldIn b_broughtIn b_doneIn) H → va_S A s.heap H locs → decode cX1_waiting pc = .ok (.ireturn, 1) → W p l e rm_X1_waiting s m args below meth c H locs 0 0 Q (F0 m pc ls [.int v]) := by
    intro H locs pc ls v h hP hS hd
    cases h
    exact ret hP hS hd
  have b33 : ∀ (k7 : Int32 → Int32 → Option (Int32)) (hk7 : ∀ (x2 : Int32) (x3 : Int32) (H : Heap) (locs : List Loc) (ls : Array Slot), k7 x2 x3 = some o → WP g A (wBook g a0 a1 a2 a3 a4 a5 a6 a7 a8 b_jobs b_over b_clocks b_held b_kinds b_operands b_ties b_states b_gone b_toldIn b_broughtIn b_doneIn) H → va_S A s.heap H locs → lv_has ls 4 [(0, .ref a0), (2, .int x2), (3, .int x3)] → W p l e rm_X1_waiting s m args below meth c H locs 0 0 Q (F0 m 7 ls [])) , ∀ (x2 : Int32) (x3 : Int32) (H : Heap) (locs : List Loc) (ls : Array Slot), f_X1_waiting_b33  b_jobs b_over b_states k7 x2 x3 = some o → WP g A (wBook g a0 a1 a2 a3 a4 a5 a6 a7 a8 b_jobs b_over b_clocks b_held b_kinds b_operands b_ties b_states b_gone b_toldIn b_broughtIn b_doneIn) H → va_S A s.heap H locs → lv_has ls 4 [(0, .ref a0), (2, .int x2), (3, .int x3)] → W p l e rm_X1_waiting s m args below meth c H locs 0 0 Q (F0 m 33 ls []) := by
    intro k7 hk7 x2 x3 H locs ls h hP hS hl
    unfold f_X1_waiting_b33 at h
    obtain ⟨v1, ev1⟩ : ∃ z : Int32, z = (x3 + 1) := ⟨_, rfl⟩
    have h := lt_at ev1 h
    refine lv_iinc (v := v1) (lv' := [(3, .int v1), (0, .ref a0), (2, .int x2)]) hx hb dX1_waiting_33 hl (k := 2) rfl (by rw [ev1]; rfl) (by decide) rfl (fun ls hl => ?_)
    refine lv_goto (tgt := 7) hx hb dX1_waiting_36 rfl ?_
    exact hk7 x2 v1 _ _ _ h hP hS (lv_sub hl [1, 2, 0] rfl)
  have l7 : ∀ (n : Nat), ∀ (x2 : Int32) (x3 : Int32) (H : Heap) (locs : List Loc) (ls : Array Slot), f_X1_waiting_l7  b_jobs b_over b_states  n x2 x3 = some o → WP g A (wBook g a0 a1 a2 a3 a4 a5 a6 a7 a8 b_jobs b_over b_clocks b_held b_kinds b_operands b_ties b_states b_gone b_toldIn b_broughtIn b_doneIn) H → va_S A s.heap H locs → lv_has ls 4 [(0, .ref a0), (2, .int x2), (3, .int x3)] → W p l e rm_X1_waiting s m args below meth c H locs 0 0 Q (F0 m 7 ls []) := by
    intro  n
    induction n with
    | zero =>
      intro x2 x3 H locs ls h
      exact nz_of h
    | succ n ih =>
      intro x2 x3 H locs ls h hP hS hl
      rw [f_X1_waiting_l7] at h
      refine lv_iload_n hx hb dX1_waiting_7 rfl (lv_at hl 2 rfl) ?_
      refine lv_aload_n hx hb dX1_waiting_8 rfl (lv_at hl 0 rfl) ?_
      refine gf_X1_36_Book_0 X hP dX1_waiting_9 ?_
      refine lv_icmp_ge (tgt := 39) hx hb dX1_waiting_12 rfl (fun c12 => ?_) (fun c12 => ?_)
      · have h := br_p c12 h
        refine lv_iconst (v := (-1)) hx hb dX1_waiting_39 rfl ?_
        exact ret h hP hS dX1_waiting_40
      · have h := br_n c12 h
        refine lv_aload_n hx hb dX1_waiting_15 rfl (lv_at hl 0 rfl) ?_
        refine gf_X1_21_Book_0 X hP dX1_waiting_16 ?_
        refine lv_iload_n hx hb dX1_waiting_19 rfl (lv_at hl 2 rfl) ?_
        obtain ⟨hi20, h⟩ := gv_of h
        refine al_Book_4 X hP hi20 dX1_waiting_20 ?_
        refine lv_if_ne (tgt := 33) hx hb dX1_waiting_21 rfl (fun c21 => ?_) (fun c21 => ?_)
        · have h := br_n c21 h
          exact b33 (f_X1_waiting_l7  b_jobs b_over b_states  n) ih  x2 x3 _ _ _ h hP hS (lv_sub hl [0, 1, 2] rfl)
        · have h := br_p c21 h
          refine lv_iload_n hx hb dX1_waiting_24 rfl (lv_at hl 1 rfl) ?_
          refine lv_if_ne (tgt := 30) hx hb dX1_waiting_25 rfl (fun c25 => ?_) (fun c25 => ?_)
          · have h := br_n c25 h
            obtain ⟨v2, ev2⟩ : ∃ z : Int32, z = (x2 + (-1)) := ⟨_, rfl⟩
            have h := lt_at ev2 h
            refine lv_iinc (v := v2) (lv' := [(2, .int v2), (0, .ref a0), (3, .int x3)]) hx hb dX1_waiting_30 hl (k := 1) rfl (by rw [ev2]; rfl) (by decide) rfl (fun ls hl => ?_)
            exact b33 (f_X1_waiting_l7  b_jobs b_over b_states  n) ih  v2 x3 _ _ _ h hP hS (lv_sub hl [1, 0, 2] rfl)
          · have h := br_p c25 h
            refine lv_iload_n hx hb dX1_waiting_28 rfl (lv_at hl 2 rfl) ?_
            exact ret h hP hS dX1_waiting_29
  unfold f_X1_waiting at h
  refine lv_iload_n hx hb dX1_waiting_0 rfl (lv_at hl 1 rfl) ?_
  refine lv_istore_n (lv' := [(2, .int p0), (0, .ref a0), (1, .int p0)]) hx hb dX1_waiting_1 rfl hl (by decide) rfl (fun ls hl => ?_)
  refine lv_aload_n hx hb dX1_waiting_2 rfl (lv_at hl 1 rfl) ?_
  refine gf_X1_40_Book_0 X hP dX1_waiting_3 ?_
  refine lv_istore_n (lv' := [(3, .int b_over), (2, .int p0), (0, .ref a0), (1, .int p0)]) hx hb dX1_waiting_6 rfl hl (by decide) rfl (fun ls hl => ?_)
  exact l7  FU p0 b_over _ _ _ h hP hS (lv_sub hl [2, 1, 0] rfl)
abbrev rm_X1_isAwaited : Room := { frames := 0, cells := 0, slots := 0, locals := 0 }
set_option maxRecDepth 100000 in
set_option maxHeartbeats 4000000 in
theorem c_X1_isAwaited {g : gT} {l : Launch} {A : Nat → Prop} {a0 a1 a2 a3 a4 a5 a6 a7 a8 : Nat} {b_jobs : Int32} {b_over : Int32} {b_clocks : Int32} {b_held : Bool} {b_kinds : Nat → Int32} {b_operands : Nat → Int32} {b_ties : Nat → Int32} {b_states : Nat → Int32} {b_gone : Nat → Int32} {b_toldIn : Nat → Int32} {b_broughtIn : Nat → Int32} {b_doneIn : Nat → Int32} {p0 : Int32} {o : Bool} (h : f_X1_isAwaited p0 b_jobs b_ties b_states = some o) : Std g l yX1_isAwaited (.code yX1_isAwaited cX1_isAwaited 3 (some .boolean) :: gw) rm_X1_isAwaited A [.ref a0, .int p0] (wBook g a0 a1 a2 a3 a4 a5 a6 a7 a8 b_jobs b_over b_clocks b_held b_kinds b_operands b_ties b_states b_gone b_toldIn b_broughtIn b_doneIn) (wBook g a0 a1 a2 a3 a4 a5 a6 a7 a8 b_jobs b_over b_clocks b_held b_kinds b_operands b_ties b_states b_gone b_toldIn b_broughtIn b_doneIn) (some (.int (bI o))) := by
  refine std_z (own := RX1) (by decide +kernel) rfl (Nat.le_of_ble_eq_true rfl) ?_
  intro p e s m args below meth c Q X ret H locs hP hS ls hl
  have hx := X.1
  have hb := X.2.1
  have hl : lv_has ls 3 [(0, .ref a0), (1, .int p0)] := hl
  have ret : ∀ {H : Heap} {locs : List Loc} {pc : Nat} {ls : Array Slot} {v : Bool} , some (v) = some o → WP g A (wBook g a0 a1 a2 a3 a4 a5 a6 a7 a8 b_jobs b_over b_clocks b_held b_kinds b_operands b_ties b_states b_gone b_toldIn b_broughtIn b_doneIn) H → va_S A s.heap H locs → decode cX1_isAwaited pc = .ok (.ireturn, 1) → W p l e rm_X1_isAwaited s m args below meth c H locs 0 0 Q (F0 m pc ls [.int (bI v)]) := by
    intro H locs pc ls v h hP hS hd
    cases h
    exact ret hP hS hd
  have b47 : ∀ (k2 : Int32 → Int32 → Option (Bool)) (hk2 : ∀ (x1 : Int32) (x2 : Int32) (H : Heap) (locs : List Loc) (ls : Array Slot), k2 x1 x2 = some o → WP g A (wBook g a0 a1 a2 a3 a4 a5 a6 a7 a8 b_jobs b_over b_clocks b_held b_kinds b_operands b_ties b_states b_gone b_toldIn b_broughtIn b_doneIn) H → va_S A s.heap H locs → lv_has ls 3 [(0, .ref a0), (1, .int x1), (2, .int x2)] → W p l e rm_X1_isAwaited s m args below meth c H locs 0 0 Q (F0 m 2 ls [])) , ∀ (x1 : Int32) (x2 : Int32) (H : Heap) (locs : List Loc) (ls : Array Slot), f_X1_isAwaited_b47  b_jobs b_ties b_states k2 x1 x2 = some o → WP g A (wBook g a0 a1 a2 a3 a4 a5 a6 a7 a8 b_jobs b_over b_clocks b_held b_kinds b_operands b_ties b_states b_gone b_toldIn b_broughtIn b_doneIn) H → va_S A s.heap H locs → lv_has ls 3 [(0, .ref a0), (1, .int x1), (2, .int x2)] → W p l e rm_X1_isAwaited s m args below meth c H locs 0 0 Q (F0 m 47 ls []) := by
    intro k2 hk2 x1 x2 H locs ls h hP hS hl
    unfold f_X1_isAwaited_b47 at h
    obtain ⟨v1, ev1⟩ : ∃ z : Int32, z = (x2 + 1) := ⟨_, rfl⟩
    have h := lt_at ev1 h
    refine lv_iinc (v := v1) (lv' := [(2, .int v1), (0, .ref a0), (1, .int x1)]) hx hb dX1_isAwaited_47 hl (k := 2) rfl (by rw [ev1]; rfl) (by decide) rfl (fun ls hl => ?_)
    refine lv_goto (tgt := 2) hx hb dX1_isAwaited_50 rfl ?_
    exact hk2 x1 v1 _ _ _ h hP hS (lv_sub hl [1, 2, 0] rfl)
  have l2 : ∀ (n : Nat), ∀ (x1 : Int32) (x2 : Int32) (H : Heap) (locs : List Loc) (ls : Array Slot), f_X1_isAwaited_l2  b_jobs b_ties b_states  n x1 x2 = some o → WP g A (wBook g a0 a1 a2 a3 a4 a5 a6 a7 a8 b_jobs b_over b_clocks b_held b_kinds b_operands b_ties b_states b_gone b_toldIn b_broughtIn b_doneIn) H → va_S A s.heap H locs → lv_has ls 3 [(0, .ref a0), (1, .int x1), (2, .int x2)] → W p l e rm_X1_isAwaited s m args below meth c H locs 0 0 Q (F0 m 2 ls []) := by
    intro  n
    induction n with
    | zero =>
      intro x1 x2 H locs ls h
      exact nz_of h
    | succ n ih =>
      intro x1 x2 H locs ls h hP hS hl
      rw [f_X1_isAwaited_l2] at h
      refine lv_iload_n hx hb dX1_isAwaited_2 rfl (lv_at hl 2 rfl) ?_
      refine lv_aload_n hx hb dX1_isAwaited_3 rfl (lv_at hl 0 rfl) ?_
      refine gf_X1_36_Book_0 X hP dX1_isAwaited_4 ?_
      refine lv_iconst (v := 3) hx hb dX1_isAwaited_7 rfl ?_
      refine lv_imul hx hb dX1_isAwaited_8 ?_
      refine lv_icmp_ge (tgt := 53) hx hb dX1_isAwaited_9 rfl (fun c9 => ?_) (fun c9 => ?_)
      · have h := br_p c9 h
        refine lv_iconst (v := 0) hx hb dX1_isAwaited_53 rfl ?_
        exact ret h hP hS dX1_isAwaited_54
      · have h := br_n c9 h
        refine lv_aload_n hx hb dX1_isAwaited_12 rfl (lv_at hl 0 rfl) ?_
        refine gf_X1_18_Book_0 X hP dX1_isAwaited_13 ?_
        refine lv_iload_n hx hb dX1_isAwaited_16 rfl (lv_at hl 2 rfl) ?_
        obtain ⟨hi17, h⟩ := gv_of h
        refine al_Book_3 X hP hi17 dX1_isAwaited_17 ?_
        refine lv_iconst (v := (-1)) hx hb dX1_isAwaited_18 rfl ?_
        refine lv_icmp_eq (tgt := 47) hx hb dX1_isAwaited_19 rfl (fun c19 => ?_) (fun c19 => ?_)
        · have h := br_p c19 h
          exact b47 (f_X1_isAwaited_l2  b_jobs b_ties b_states  n) ih  x1 x2 _ _ _ h hP hS (lv_sub hl [0, 1, 2] rfl)
        · have h := br_n c19 h
          refine lv_aload_n hx hb dX1_isAwaited_22 rfl (lv_at hl 0 rfl) ?_
          refine gf_X1_18_Book_0 X hP dX1_isAwaited_23 ?_
          refine lv_iload_n hx hb dX1_isAwaited_26 rfl (lv_at hl 2 rfl) ?_
          obtain ⟨hi27, h⟩ := gv_of h
          refine al_Book_3 X hP hi27 dX1_isAwaited_27 ?_
          refine lv_iconst (v := 1) hx hb dX1_isAwaited_28 rfl ?_
          refine lv_ishr hx hb dX1_isAwaited_29 ?_
          refine lv_iload_n hx hb dX1_isAwaited_30 rfl (lv_at hl 1 rfl) ?_
          refine lv_icmp_ne (tgt := 47) hx hb dX1_isAwaited_31 rfl (fun c31 => ?_) (fun c31 => ?_)
          · have h := br_n c31 h
            exact b47 (f_X1_isAwaited_l2  b_jobs b_ties b_states  n) ih  x1 x2 _ _ _ h hP hS (lv_sub hl [0, 1, 2] rfl)
          · have h := br_p c31 h
            refine lv_aload_n hx hb dX1_isAwaited_34 rfl (lv_at hl 0 rfl) ?_
            refine gf_X1_21_Book_0 X hP dX1_isAwaited_35 ?_
            refine lv_iload_n hx hb dX1_isAwaited_38 rfl (lv_at hl 2 rfl) ?_
            refine lv_iconst (v := 3) hx hb dX1_isAwaited_39 rfl ?_
            obtain ⟨cz40, h⟩ := gz_of h
            refine lv_idiv hx hb dX1_isAwaited_40 cz40 ?_
            obtain ⟨hi41, h⟩ := gv_of h
            refine al_Book_4 X hP hi41 dX1_isAwaited_41 ?_
            refine lv_if_ne (tgt := 47) hx hb dX1_isAwaited_42 rfl (fun c42 => ?_) (fun c42 => ?_)
            · have h := br_n c42 h
              exact b47 (f_X1_isAwaited_l2  b_jobs b_ties b_states  n) ih  x1 x2 _ _ _ h hP hS (lv_sub hl [0, 1, 2] rfl)
            · have h := br_p c42 h
              refine lv_iconst (v := 1) hx hb dX1_isAwaited_45 rfl ?_
              exact ret h hP hS dX1_isAwaited_46
  unfold f_X1_isAwaited at h
  refine lv_iconst (v := 0) hx hb dX1_isAwaited_0 rfl ?_
  refine lv_istore_n (lv' := [(2, .int 0), (0, .ref a0), (1, .int p0)]) hx hb dX1_isAwaited_1 rfl hl (by decide) rfl (fun ls hl => ?_)
  exact l2  FU p0 (0 : Int32) _ _ _ h hP hS (lv_sub hl [1, 2, 0] rfl)
abbrev rm_X1_aheadOf : Room := { frames := 0, cells := 0, slots := 0, locals := 0 }
set_option maxRecDepth 100000 in
set_option maxHeartbeats 4000000 in
theorem c_X1_aheadOf {g : gT} {l : Launch} {A : Nat → Prop} {a0 a1 a2 a3 a4 a5 a6 a7 a8 : Nat} {b_jobs : Int32} {b_over : Int32} {b_clocks : Int32} {b_held : Bool} {b_kinds : Nat → Int32} {b_operands : Nat → Int32} {b_ties : Nat → Int32} {b_states : Nat → Int32} {b_gone : Nat → Int32} {b_toldIn : Nat → Int32} {b_broughtIn : Nat → Int32} {b_doneIn : Nat → Int32} {p0 : Int32} {o : Int32} (h : f_X1_aheadOf p0 b_jobs b_over b_states b_gone = some o) : Std g l yX1_aheadOf (.code yX1_aheadOf cX1_aheadOf 3 (some .int) :: gw) rm_X1_aheadOf A [.ref a0, .int p0] (wBook g a0 a1 a2 a3 a4 a5 a6 a7 a8 b_jobs b_over b_clocks b_held b_kinds b_operands b_ties b_states b_gone b_toldIn b_broughtIn b_doneIn) (wBook g a0 a1 a2 a3 a4 a5 a6 a7 a8 b_jobs b_over b_clocks b_held b_kinds b_operands b_ties b_states b_gone b_toldIn b_broughtIn b_doneIn) (some (.int o)) := by
  refine std_i (own := RX1) (by decide +kernel) rfl (Nat.le_of_ble_eq_true rfl) ?_
  intro p e s m args below meth c Q X ret H locs hP hS ls hl
  have hx := X.1
  have hb := X.2.1
  have hl : lv_has ls 3 [(0, .ref a0), (1, .int p0)] := hl
  have ret : ∀ {H : Heap} {locs : List Loc} {pc : Nat} {ls : Array Slot} {v : Int32} , some (v) = some o → WP g A (wBook g a0 a1 a2 a3 a4 a5 a6 a7 a8 b_jobs b_over b_clocks b_held b_kinds b_operands b_ties b_states b_gone b_toldIn b_broughtIn b_doneIn) H → va_S A s.heap H locs → decode cX1_aheadOf pc = .ok (.ireturn, 1) → W p l e rm_X1_aheadOf s m args below meth c H locs 0 0 Q (F0 m pc ls [.int v]) := by
    intro H locs pc ls v h hP hS hd
    cases h
    exact ret hP hS hd
  have b35 : ∀ (k5 : Int32 → Int32 → Option (Int32)) (hk5 : ∀ (x1 : Int32) (x2 : Int32) (H : Heap) (locs : List Loc) (ls : Array Slot), k5 x1 x2 = some o → WP g A (wBook g a0 a1 a2 a3 a4 a5 a6 a7 a8 b_jobs b_over b_clocks b_held b_kinds b_operands b_ties b_states b_gone b_toldIn b_broughtIn b_doneIn) H → va_S A s.heap H locs → lv_has ls 3 [(0, .ref a0), (1, .int x1), (2, .int x2)] → W p l e rm_X1_aheadOf s m args below meth c H locs 0 0 Q (F0 m 5 ls [])) , ∀ (x1 : Int32) (x2 : Int32) (H : Heap) (locs : List Loc) (ls : Array Slot), f_X1_aheadOf_b35  b_jobs b_over b_states b_gone k5 x1 x2 = some o → WP g A (wBook g a0 a1 a2 a3 a4 a5 a6 a7 a8 b_jobs b_over b_clocks b_held b_kinds b_operands b_ties b_states b_gone b_toldIn b_broughtIn b_doneIn) H → va_S A s.heap H locs → lv_has ls 3 [(0, .ref a0), (1, .int x1), (2, .int x2)] → W p l e rm_X1_aheadOf s m args below meth c H locs 0 0 Q (F0 m 35 ls []) := by
    intro k5 hk5 x1 x2 H locs ls h hP hS hl
    unfold f_X1_aheadOf_b35 at h
    obtain ⟨v1, ev1⟩ : ∃ z : Int32, z = (x2 + 1) := ⟨_, rfl⟩
    have h := lt_at ev1 h
    refine lv_iinc (v := v1) (lv' := [(2, .int v1), (0, .ref a0), (1, .int x1)]) hx hb dX1_aheadOf_35 hl (k := 2) rfl (by rw [ev1]; rfl) (by decide) rfl (fun ls hl => ?_)
    refine lv_goto (tgt := 5) hx hb dX1_aheadOf_38 rfl ?_
    exact hk5 x1 v1 _ _ _ h hP hS (lv_sub hl [1, 2, 0] rfl)
  have l5 : ∀ (n : Nat), ∀ (x1 : Int32) (x2 : Int32) (H : Heap) (locs : List Loc) (ls : Array Slot), f_X1_aheadOf_l5  b_jobs b_over b_states b_gone  n x1 x2 = some o → WP g A (wBook g a0 a1 a2 a3 a4 a5 a6 a7 a8 b_jobs b_over b_clocks b_held b_kinds b_operands b_ties b_states b_gone b_toldIn b_broughtIn b_doneIn) H → va_S A s.heap H locs → lv_has ls 3 [(0, .ref a0), (1, .int x1), (2, .int x2)] → W p l e rm_X1_aheadOf s m args below meth c H locs 0 0 Q (F0 m 5 ls []) := by
    intro  n
    induction n with
    | zero =>
      intro x1 x2 H locs ls h
      exact nz_of h
    | succ n ih =>
      intro x1 x2 H locs ls h hP hS hl
      rw [f_X1_aheadOf_l5] at h
      refine lv_iload_n hx hb dX1_aheadOf_5 rfl (lv_at hl 2 rfl) ?_
      refine lv_aload_n hx hb dX1_aheadOf_6 rfl (lv_at hl 0 rfl) ?_
      refine gf_X1_36_Book_0 X hP dX1_aheadOf_7 ?_
      refine lv_icmp_ge (tgt := 41) hx hb dX1_aheadOf_10 rfl (fun c10 => ?_) (fun c10 => ?_)
      · have h := br_p c10 h
        refine lv_iconst (v := (-1)) hx hb dX1_aheadOf_41 rfl ?_
        exact ret h hP hS dX1_aheadOf_42
      · have h := br_n c10 h
        refine lv_aload_n hx hb dX1_aheadOf_13 rfl (lv_at hl 0 rfl) ?_
        refine gf_X1_21_Book_0 X hP dX1_aheadOf_14 ?_
        refine lv_iload_n hx hb dX1_aheadOf_17 rfl (lv_at hl 2 rfl) ?_
        obtain ⟨hi18, h⟩ := gv_of h
        refine al_Book_4 X hP hi18 dX1_aheadOf_18 ?_
        refine lv_iconst (v := 1) hx hb dX1_aheadOf_19 rfl ?_
        refine lv_icmp_ne (tgt := 35) hx hb dX1_aheadOf_20 rfl (fun c20 => ?_) (fun c20 => ?_)
        · have h := br_n c20 h
          exact b35 (f_X1_aheadOf_l5  b_jobs b_over b_states b_gone  n) ih  x1 x2 _ _ _ h hP hS (lv_sub hl [0, 1, 2] rfl)
        · have h := br_p c20 h
          refine lv_aload_n hx hb dX1_aheadOf_23 rfl (lv_at hl 0 rfl) ?_
          refine gf_X1_24_Book_0 X hP dX1_aheadOf_24 ?_
          refine lv_iload_n hx hb dX1_aheadOf_27 rfl (lv_at hl 2 rfl) ?_
          obtain ⟨hi28, h⟩ := gv_of h
          refine al_Book_5 X hP hi28 dX1_aheadOf_28 ?_
          refine lv_iload_n hx hb dX1_aheadOf_29 rfl (lv_at hl 1 rfl) ?_
          refine lv_icmp_ne (tgt := 35) hx hb dX1_aheadOf_30 rfl (fun c30 => ?_) (fun c30 => ?_)
          · have h := br_n c30 h
            exact b35 (f_X1_aheadOf_l5  b_jobs b_over b_states b_gone  n) ih  x1 x2 _ _ _ h hP hS (lv_sub hl [0, 1, 2] rfl)
          · have h := br_p c30 h
            refine lv_iload_n hx hb dX1_aheadOf_33 rfl (lv_at hl 2 rfl) ?_
            exact ret h hP hS dX1_aheadOf_34
  unfold f_X1_aheadOf at h
  refine lv_aload_n hx hb dX1_aheadOf_0 rfl (lv_at hl 0 rfl) ?_
  refine gf_X1_40_Book_0 X hP dX1_aheadOf_1 ?_
  refine lv_istore_n (lv' := [(2, .int b_over), (0, .ref a0), (1, .int p0)]) hx hb dX1_aheadOf_4 rfl hl (by decide) rfl (fun ls hl => ?_)
  exact l5  FU p0 b_over _ _ _ h hP hS (lv_sub hl [1, 2, 0] rfl)
abbrev rm_X1_standsIn : Room := { frames := 0, cells := 0, slots := 0, locals := 0 }
set_option maxRecDepth 100000 in
set_option maxHeartbeats 4000000 in
theorem c_X1_standsIn {g : gT} {l : Launch} {A : Nat → Prop} {a0 a1 a2 a3 a4 a5 a6 a7 a8 a9 a10 a11 a12 a13 a14 : Nat} {b_jobs : Int32} {b_over : Int32} {b_clocks : Int32} {b_held : Bool} {b_kinds : Nat → Int32} {b_operands : Nat → Int32} {b_ties : Nat → Int32} {b_states : Nat → Int32} {b_gone : Nat → Int32} {b_toldIn : Nat → Int32} {b_broughtIn : Nat → Int32} {b_doneIn : Nat → Int32} {u_width : Int32} {u_guard : Int32} {u_bits : Int32} {u_stages : Int32} {u_places : Int32} {u_near : Bool} {u_quarter : Int64} {u_eighth : Int64} {u_ln : Int64} {u_shifts : Nat → Int32} {u_angles : Nat → Int64} {u_gains : Nat → Int64} {u_undos : Nat → Int64} {u_digits : Nat → Int32} {p0 : Int32} {o : Int32} (h : f_X1_standsIn p0 b_jobs b_over b_states b_gone u_stages u_places = some o) : Std g l yX1_standsIn (.code yX1_standsIn cX1_standsIn 4 (some .int) :: gw) rm_X1_standsIn A [.ref a0, .int p0, .ref a9] (wBU g a0 a1 a2 a3 a4 a5 a6 a7 a8 a9 a10 a11 a12 a13 a14 b_jobs b_over b_clocks b_held b_kinds b_operands b_ties b_states b_gone b_toldIn b_broughtIn b_doneIn u_width u_guard u_bits u_stages u_places u_near u_quarter u_eighth u_ln u_shifts u_angles u_gains u_undos u_digits) (wBU g a0 a1 a2 a3 a4 a5 a6 a7 a8 a9 a10 a11 a12 a13 a14 b_jobs b_over b_clocks b_held b_kinds b_operands b_ties b_states b_gone b_toldIn b_broughtIn b_doneIn u_width u_guard u_bits u_stages u_places u_near u_quarter u_eighth u_ln u_shifts u_angles u_gains u_undos u_digits) (some (.int o)) := by
  refine std_i (own := RX1) (by decide +kernel) rfl (Nat.le_of_ble_eq_true rfl) ?_
  intro p e s m args below meth c Q X ret H locs hP hS ls hl
  have hx := X.1
  have hb := X.2.1
  have hl : lv_has ls 4 [(0, .ref a0), (1, .int p0), (2, .ref a9)] := hl
  have ret : ∀ {H : Heap} {locs : List Loc} {pc : Nat} {ls : Array Slot} {v : Int32} , some (v) = some o → WP g A (wBU g a0 a1 a2 a3 a4 a5 a6 a7 a8 a9 a10 a11 a12 a13 a14 b_jobs b_over b_clocks b_held b_kinds b_operands b_ties b_states b_gone b_toldIn b_broughtIn b_doneIn u_width u_guard u_bits u_stages u_places u_near u_quarter u_eighth u_ln u_shifts u_angles u_gains u_undos u_digits) H → va_S A s.heap H locs → decode cX1_standsIn pc = .ok (.ireturn, 1) → W p l e rm_X1_standsIn s m args below meth c H locs 0 0 Q (F0 m pc ls [.int v]) := by
    intro H locs pc ls v h hP hS hd
    cases h
    exact ret hP hS hd
  have b75 : ∀  (H : Heap) (locs : List Loc) (ls : Array Slot), f_X1_standsIn_b75  b_jobs b_over b_states b_gone u_stages u_places   = some o → WP g A (wBU g a0 a1 a2 a3 a4 a5 a6 a7 a8 a9 a10 a11 a12 a13 a14 b_jobs b_over b_clocks b_held b_kinds b_operands b_ties b_states b_gone b_toldIn b_broughtIn b_doneIn u_width u_guard u_bits u_stages u_places u_near u_quarter u_eighth u_ln u_shifts u_angles u_gains u_undos u_digits) H → va_S A s.heap H locs → lv_has ls 4 [] → W p l e rm_X1_standsIn s m args below meth c H locs 0 0 Q (F0 m 75 ls []) := by
    intro   H locs ls h hP hS hl
    unfold f_X1_standsIn_b75 at h
    refine lv_iconst (v := (-1)) hx hb dX1_standsIn_75 rfl ?_
    exact ret h hP hS dX1_standsIn_76
  have b69 : ∀ (k5 : Int32 → Int32 → Option (Int32)) (hk5 : ∀ (x1 : Int32) (x3 : Int32) (H : Heap) (locs : List Loc) (ls : Array Slot), k5 x1 x3 = some o → WP g A (wBU g a0 a1 a2 a3 a4 a5 a6 a7 a8 a9 a10 a11 a12 a13 a14 b_jobs b_over b_clocks b_held b_kinds b_operands b_ties b_states b_gone b_toldIn b_broughtIn b_doneIn u_width u_guard u_bits u_stages u_places u_near u_quarter u_eighth u_ln u_shifts u_angles u_gains u_undos u_digits) H → va_S A s.heap H locs → lv_has ls 4 [(0, .ref a0), (1, .int x1), (2, .ref a9), (3, .int x3)] → W p l e rm_X1_standsIn s m args below meth c H locs 0 0 Q (F0 m 5 ls [])) , ∀ (x1 : Int32) (x3 : Int32) (H : Heap) (locs : List Loc) (ls : Array Slot), f_X1_standsIn_b69  b_jobs b_over b_states b_gone u_stages u_places k5 x1 x3 = some o → WP g A (wBU g a0 a1 a2 a3 a4 a5 a6 a7 a8 a9 a10 a11 a12 a13 a14 b_jobs b_over b_clocks b_held b_kinds b_operands b_ties b_states b_gone b_toldIn b_broughtIn b_doneIn u_width u_guard u_bits u_stages u_places u_near u_quarter u_eighth u_ln u_shifts u_angles u_gains u_undos u_digits) H → va_S A s.heap H locs → lv_has ls 4 [(0, .ref a0), (1, .int x1), (2, .ref a9), (3, .int x3)] → W p l e rm_X1_standsIn s m args below meth c H locs 0 0 Q (F0 m 69 ls []) := by
    intro k5 hk5 x1 x3 H locs ls h hP hS hl
    unfold f_X1_standsIn_b69 at h
    obtain ⟨v1, ev1⟩ : ∃ z : Int32, z = (x3 + 1) := ⟨_, rfl⟩
    have h := lt_at ev1 h
    refine lv_iinc (v := v1) (lv' := [(3, .int v1), (0, .ref a0), (1, .int x1), (2, .ref a9)]) hx hb dX1_standsIn_69 hl (k := 3) rfl (by rw [ev1]; rfl) (by decide) rfl (fun ls hl => ?_)
    refine lv_goto (tgt := 5) hx hb dX1_standsIn_72 rfl ?_
    exact hk5 x1 v1 _ _ _ h hP hS (lv_sub hl [1, 2, 3, 0] rfl)
  have l5 : ∀ (n : Nat), ∀ (x1 : Int32) (x3 : Int32) (H : Heap) (locs : List Loc) (ls : Array Slot), f_X1_standsIn_l5  b_jobs b_over b_states b_gone u_stages u_places  n x1 x3 = some o → WP g A (wBU g a0 a1 a2 a3 a4 a5 a6 a7 a8 a9 a10 a11 a12 a13 a14 b_jobs b_over b_clocks b_held b_kinds b_operands b_ties b_states b_gone b_toldIn b_broughtIn b_doneIn u_width u_guard u_bits u_stages u_places u_near u_quarter u_eighth u_ln u_shifts u_angles u_gains u_undos u_digits) H → va_S A s.heap H locs → lv_has ls 4 [(0, .ref a0), (1, .int x1), (2, .ref a9), (3, .int x3)] → W p l e rm_X1_standsIn s m args below meth c H locs 0 0 Q (F0 m 5 ls []) := by
    intro  n
    induction n with
    | zero =>
      intro x1 x3 H locs ls h
      exact nz_of h
    | succ n ih =>
      intro x1 x3 H locs ls h hP hS hl
      rw [f_X1_standsIn_l5] at h
      refine lv_iload_n hx hb dX1_standsIn_5 rfl (lv_at hl 3 rfl) ?_
      refine lv_aload_n hx hb dX1_standsIn_6 rfl (lv_at hl 0 rfl) ?_
      refine gf_X1_36_BU_0 X hP dX1_standsIn_7 ?_
      refine lv_icmp_ge (tgt := 75) hx hb dX1_standsIn_10 rfl (fun c10 => ?_) (fun c10 => ?_)
      · have h := br_p c10 h
        exact b75    _ _ _ h hP hS (lv_sub hl [] rfl)
      · have h := br_n c10 h
        refine lv_aload_n hx hb dX1_standsIn_13 rfl (lv_at hl 0 rfl) ?_
        refine gf_X1_21_BU_0 X hP dX1_standsIn_14 ?_
        refine lv_iload_n hx hb dX1_standsIn_17 rfl (lv_at hl 3 rfl) ?_
        obtain ⟨hi18, h⟩ := gv_of h
        refine al_BU_4 X hP hi18 dX1_standsIn_18 ?_
        refine lv_if_eq (tgt := 75) hx hb dX1_standsIn_19 rfl (fun c19 => ?_) (fun c19 => ?_)
        · have h := br_p c19 h
          exact b75    _ _ _ h hP hS (lv_sub hl [] rfl)
        · have h := br_n c19 h
          refine lv_aload_n hx hb dX1_standsIn_22 rfl (lv_at hl 0 rfl) ?_
          refine gf_X1_21_BU_0 X hP dX1_standsIn_23 ?_
          refine lv_iload_n hx hb dX1_standsIn_26 rfl (lv_at hl 3 rfl) ?_
          obtain ⟨hi27, h⟩ := gv_of h
          refine al_BU_4 X hP hi27 dX1_standsIn_27 ?_
          refine lv_iconst (v := 1) hx hb dX1_standsIn_28 rfl ?_
          refine lv_icmp_ne (tgt := 69) hx hb dX1_standsIn_29 rfl (fun c29 => ?_) (fun c29 => ?_)
          · have h := br_n c29 h
            exact b69 (f_X1_standsIn_l5  b_jobs b_over b_states b_gone u_stages u_places  n) ih  x1 x3 _ _ _ h hP hS (lv_sub hl [0, 1, 2, 3] rfl)
          · have h := br_p c29 h
            refine lv_aload_n hx hb dX1_standsIn_32 rfl (lv_at hl 0 rfl) ?_
            refine gf_X1_24_BU_0 X hP dX1_standsIn_33 ?_
            refine lv_iload_n hx hb dX1_standsIn_36 rfl (lv_at hl 3 rfl) ?_
            obtain ⟨hi37, h⟩ := gv_of h
            refine al_BU_5 X hP hi37 dX1_standsIn_37 ?_
            refine lv_aload_n hx hb dX1_standsIn_38 rfl (lv_at hl 2 rfl) ?_
            refine gf_X1_56_BU_9 X hP dX1_standsIn_39 ?_
            refine lv_icmp_ge (tgt := 69) hx hb dX1_standsIn_42 rfl (fun c42 => ?_) (fun c42 => ?_)
            · have h := br_p c42 h
              exact b69 (f_X1_standsIn_l5  b_jobs b_over b_states b_gone u_stages u_places  n) ih  x1 x3 _ _ _ h hP hS (lv_sub hl [0, 1, 2, 3] rfl)
            · have h := br_n c42 h
              refine lv_aload_n hx hb dX1_standsIn_45 rfl (lv_at hl 2 rfl) ?_
              refine gf_X1_61_BU_9 X hP dX1_standsIn_46 ?_
              refine lv_if_le (tgt := 69) hx hb dX1_standsIn_49 rfl (fun c49 => ?_) (fun c49 => ?_)
              · have h := br_p c49 h
                exact b69 (f_X1_standsIn_l5  b_jobs b_over b_states b_gone u_stages u_places  n) ih  x1 x3 _ _ _ h hP hS (lv_sub hl [0, 1, 2, 3] rfl)
              · have h := br_n c49 h
                refine lv_aload_n hx hb dX1_standsIn_52 rfl (lv_at hl 0 rfl) ?_
                refine gf_X1_24_BU_0 X hP dX1_standsIn_53 ?_
                refine lv_iload_n hx hb dX1_standsIn_56 rfl (lv_at hl 3 rfl) ?_
                obtain ⟨hi57, h⟩ := gv_of h
                refine al_BU_5 X hP hi57 dX1_standsIn_57 ?_
                refine lv_aload_n hx hb dX1_standsIn_58 rfl (lv_at hl 2 rfl) ?_
                refine gf_X1_61_BU_9 X hP dX1_standsIn_59 ?_
                obtain ⟨cz62, h⟩ := gz_of h
                refine lv_irem hx hb dX1_standsIn_62 cz62 ?_
                refine lv_iload_n hx hb dX1_standsIn_63 rfl (lv_at hl 1 rfl) ?_
                refine lv_icmp_ne (tgt := 69) hx hb dX1_standsIn_64 rfl (fun c64 => ?_) (fun c64 => ?_)
                · have h := br_n c64 h
                  exact b69 (f_X1_standsIn_l5  b_jobs b_over b_states b_gone u_stages u_places  n) ih  x1 x3 _ _ _ h hP hS (lv_sub hl [0, 1, 2, 3] rfl)
                · have h := br_p c64 h
                  refine lv_iload_n hx hb dX1_standsIn_67 rfl (lv_at hl 3 rfl) ?_
                  exact ret h hP hS dX1_standsIn_68
  unfold f_X1_standsIn at h
  refine lv_aload_n hx hb dX1_standsIn_0 rfl (lv_at hl 0 rfl) ?_
  refine gf_X1_40_BU_0 X hP dX1_standsIn_1 ?_
  refine lv_istore_n (lv' := [(3, .int b_over), (0, .ref a0), (1, .int p0), (2, .ref a9)]) hx hb dX1_standsIn_4 rfl hl (by decide) rfl (fun ls hl => ?_)
  exact l5  FU p0 b_over _ _ _ h hP hS (lv_sub hl [1, 2, 3, 0] rfl)
abbrev rm_X1_goOn : Room := { frames := 0, cells := 0, slots := 0, locals := 0 }
set_option maxRecDepth 100000 in
set_option maxHeartbeats 4000000 in
theorem c_X1_goOn {g : gT} {l : Launch} {A : Nat → Prop} {a0 a1 a2 a3 a4 a5 a6 a7 a8 : Nat} {b_jobs : Int32} {b_over : Int32} {b_clocks : Int32} {b_held : Bool} {b_kinds : Nat → Int32} {b_operands : Nat → Int32} {b_ties : Nat → Int32} {b_states : Nat → Int32} {b_gone : Nat → Int32} {b_toldIn : Nat → Int32} {b_broughtIn : Nat → Int32} {b_doneIn : Nat → Int32} {p0 : Int32} {o : Int32 × (Nat → Int32) × (Nat → Int32) × (Nat → Int32)} (h : f_X1_goOn p0 b_jobs b_over b_clocks b_states b_gone b_doneIn = some o) : Std g l yX1_goOn (.code yX1_goOn cX1_goOn 4 (some .int) :: gw) rm_X1_goOn A [.ref a0, .int p0] (wBook g a0 a1 a2 a3 a4 a5 a6 a7 a8 b_jobs b_over b_clocks b_held b_kinds b_operands b_ties b_states b_gone b_toldIn b_broughtIn b_doneIn) (wBook g a0 a1 a2 a3 a4 a5 a6 a7 a8 b_jobs b_over b_clocks b_held b_kinds b_operands b_ties o.2.1 o.2.2.1 b_toldIn b_broughtIn o.2.2.2) (some (.int o.1)) := by
  refine std_i (own := RX1) (by decide +kernel) rfl (Nat.le_of_ble_eq_true rfl) ?_
  intro p e s m args below meth c Q X ret H locs hP hS ls hl
  have hx := X.1
  have hb := X.2.1
  have hl : lv_has ls 4 [(0, .ref a0), (1, .int p0)] := hl
  have ret : ∀ {H : Heap} {locs : List Loc} {pc : Nat} {ls : Array Slot} {v : Int32} {b_states : Nat → Int32} {b_gone : Nat → Int32} {b_doneIn : Nat → Int32}, some (v, b_states, b_gone, b_doneIn) = some o → WP g A (wBook g a0 a1 a2 a3 a4 a5 a6 a7 a8 b_jobs b_over b_clocks b_held b_kinds b_operands b_ties b_states b_gone b_toldIn b_broughtIn b_doneIn) H → va_S A s.heap H locs → decode cX1_goOn pc = .ok (.ireturn, 1) → W p l e rm_X1_goOn s m args below meth c H locs 0 0 Q (F0 m pc ls [.int v]) := by
    intro H locs pc ls v b_states b_gone b_doneIn h hP hS hd
    cases h
    exact ret hP hS hd
  have b86 : ∀ (x2 : Int32) (b_states : Nat → Int32) (b_gone : Nat → Int32) (b_doneIn : Nat → Int32) (H : Heap) (locs : List Loc) (ls : Array Slot), f_X1_goOn_b86  b_jobs b_over b_clocks  x2 b_states b_gone b_doneIn = some o → WP g A (wBook g a0 a1 a2 a3 a4 a5 a6 a7 a8 b_jobs b_over b_clocks b_held b_kinds b_operands b_ties b_states b_gone b_toldIn b_broughtIn b_doneIn) H → va_S A s.heap H locs → lv_has ls 4 [(2, .int x2)] → W p l e rm_X1_goOn s m args below meth c H locs 0 0 Q (F0 m 86 ls []) := by
    intro  x2 b_states b_gone b_doneIn H locs ls h hP hS hl
    unfold f_X1_goOn_b86 at h
    refine lv_iload_n hx hb dX1_goOn_86 rfl (lv_at hl 0 rfl) ?_
    exact ret h hP hS dX1_goOn_87
  have b80 : ∀ (k7 : Int32 → Int32 → Int32 → (Nat → Int32) → (Nat → Int32) → (Nat → Int32) → Option (Int32 × (Nat → Int32) × (Nat → Int32) × (Nat → Int32))) (hk7 : ∀ (x1 : Int32) (x2 : Int32) (x3 : Int32) (b_states : Nat → Int32) (b_gone : Nat → Int32) (b_doneIn : Nat → Int32) (H : Heap) (locs : List Loc) (ls : Array Slot), k7 x1 x2 x3 b_states b_gone b_doneIn = some o → WP g A (wBook g a0 a1 a2 a3 a4 a5 a6 a7 a8 b_jobs b_over b_clocks b_held b_kinds b_operands b_ties b_states b_gone b_toldIn b_broughtIn b_doneIn) H → va_S A s.heap H locs → lv_has ls 4 [(0, .ref a0), (1, .int x1), (2, .int x2), (3, .int x3)] → W p l e rm_X1_goOn s m args below meth c H locs 0 0 Q (F0 m 7 ls [])) , ∀ (x1 : Int32) (x2 : Int32) (x3 : Int32) (b_states : Nat → Int32) (b_gone : Nat → Int32) (b_doneIn : Nat → Int32) (H : Heap) (locs : List Loc) (ls : Array Slot), f_X1_goOn_b80  b_jobs b_over b_clocks k7 x1 x2 x3 b_states b_gone b_doneIn = some o → WP g A (wBook g a0 a1 a2 a3 a4 a5 a6 a7 a8 b_jobs b_over b_clocks b_held b_kinds b_operands b_ties b_states b_gone b_toldIn b_broughtIn b_doneIn) H → va_S A s.heap H locs → lv_has ls 4 [(0, .ref a0), (1, .int x1), (2, .int x2), (3, .int x3)] → W p l e rm_X1_goOn s m args below meth c H locs 0 0 Q (F0 m 80 ls []) := by
    intro k7 hk7 x1 x2 x3 b_states b_gone b_doneIn H locs ls h hP hS hl
    unfold f_X1_goOn_b80 at h
    obtain ⟨v2, ev2⟩ : ∃ z : Int32, z = (x3 + 1) := ⟨_, rfl⟩
    have h := lt_at ev2 h
    refine lv_iinc (v := v2) (lv' := [(3, .int v2), (0, .ref a0), (1, .int x1), (2, .int x2)]) hx hb dX1_goOn_80 hl (k := 3) rfl (by rw [ev2]; rfl) (by decide) rfl (fun ls hl => ?_)
    refine lv_goto (tgt := 7) hx hb dX1_goOn_83 rfl ?_
    exact hk7 x1 x2 v2 b_states b_gone b_doneIn _ _ _ h hP hS (lv_sub hl [1, 2, 3, 0] rfl)
  have l7 : ∀ (n : Nat), ∀ (x1 : Int32) (x2 : Int32) (x3 : Int32) (b_states : Nat → Int32) (b_gone : Nat → Int32) (b_doneIn : Nat → Int32) (H : Heap) (locs : List Loc) (ls : Array Slot), f_X1_goOn_l7  b_jobs b_over b_clocks  n x1 x2 x3 b_states b_gone b_doneIn = some o → WP g A (wBook g a0 a1 a2 a3 a4 a5 a6 a7 a8 b_jobs b_over b_clocks b_held b_kinds b_operands b_ties b_states b_gone b_toldIn b_broughtIn b_doneIn) H → va_S A s.heap H locs → lv_has ls 4 [(0, .ref a0), (1, .int x1), (2, .int x2), (3, .int x3)] → W p l e rm_X1_goOn s m args below meth c H locs 0 0 Q (F0 m 7 ls []) := by
    intro  n
    induction n with
    | zero =>
      intro x1 x2 x3 b_states b_gone b_doneIn H locs ls h
      exact nz_of h
    | succ n ih =>
      intro x1 x2 x3 b_states b_gone b_doneIn H locs ls h hP hS hl
      rw [f_X1_goOn_l7] at h
      refine lv_iload_n hx hb dX1_goOn_7 rfl (lv_at hl 3 rfl) ?_
      refine lv_aload_n hx hb dX1_goOn_8 rfl (lv_at hl 0 rfl) ?_
      refine gf_X1_36_Book_0 X hP dX1_goOn_9 ?_
      refine lv_icmp_ge (tgt := 86) hx hb dX1_goOn_12 rfl (fun c12 => ?_) (fun c12 => ?_)
      · have h := br_p c12 h
        exact b86   x2 b_states b_gone b_doneIn _ _ _ h hP hS (lv_sub hl [2] rfl)
      · have h := br_n c12 h
        refine lv_aload_n hx hb dX1_goOn_15 rfl (lv_at hl 0 rfl) ?_
        refine gf_X1_21_Book_0 X hP dX1_goOn_16 ?_
        refine lv_iload_n hx hb dX1_goOn_19 rfl (lv_at hl 3 rfl) ?_
        obtain ⟨hi20, h⟩ := gv_of h
        refine al_Book_4 X hP hi20 dX1_goOn_20 ?_
        refine lv_if_eq (tgt := 86) hx hb dX1_goOn_21 rfl (fun c21 => ?_) (fun c21 => ?_)
        · have h := br_p c21 h
          exact b86   x2 b_states b_gone b_doneIn _ _ _ h hP hS (lv_sub hl [2] rfl)
        · have h := br_n c21 h
          refine lv_aload_n hx hb dX1_goOn_24 rfl (lv_at hl 0 rfl) ?_
          refine gf_X1_21_Book_0 X hP dX1_goOn_25 ?_
          refine lv_iload_n hx hb dX1_goOn_28 rfl (lv_at hl 3 rfl) ?_
          obtain ⟨hi29, h⟩ := gv_of h
          refine al_Book_4 X hP hi29 dX1_goOn_29 ?_
          refine lv_iconst (v := 1) hx hb dX1_goOn_30 rfl ?_
          refine lv_icmp_eq (tgt := 37) hx hb dX1_goOn_31 rfl (fun c31 => ?_) (fun c31 => ?_)
          · have h := br_p c31 h
            refine lv_aload_n hx hb dX1_goOn_37 rfl (lv_at hl 0 rfl) ?_
            refine gf_X1_24_Book_0 X hP dX1_goOn_38 ?_
            refine lv_iload_n hx hb dX1_goOn_41 rfl (lv_at hl 3 rfl) ?_
            obtain ⟨hi42, h⟩ := gv_of h
            refine al_Book_5 X hP hi42 dX1_goOn_42 ?_
            refine lv_iload_n hx hb dX1_goOn_43 rfl (lv_at hl 1 rfl) ?_
            refine lv_icmp_ge (tgt := 60) hx hb dX1_goOn_44 rfl (fun c44 => ?_) (fun c44 => ?_)
            · have h := br_p c44 h
              refine lv_aload_n hx hb dX1_goOn_60 rfl (lv_at hl 0 rfl) ?_
              refine gf_X1_21_Book_0 X hP dX1_goOn_61 ?_
              refine lv_iload_n hx hb dX1_goOn_64 rfl (lv_at hl 3 rfl) ?_
              refine lv_iconst (v := 2) hx hb dX1_goOn_65 rfl ?_
              obtain ⟨hi66, h⟩ := gv_of h
              refine as_Book_4 (v0 := (2 : Int32)) X hP hS hi66 dX1_goOn_66 (fun H locs hP hS => ?_)
              refine lv_aload_n hx hb dX1_goOn_67 rfl (lv_at hl 0 rfl) ?_
              refine gf_X1_33_Book_0 X hP dX1_goOn_68 ?_
              refine lv_iload_n hx hb dX1_goOn_71 rfl (lv_at hl 3 rfl) ?_
              refine lv_aload_n hx hb dX1_goOn_72 rfl (lv_at hl 0 rfl) ?_
              refine gf_X1_43_Book_0 X hP dX1_goOn_73 ?_
              obtain ⟨hi76, h⟩ := gv_of h
              refine as_Book_8 (v0 := b_clocks) X hP hS hi76 dX1_goOn_76 (fun H locs hP hS => ?_)
              obtain ⟨v1, ev1⟩ : ∃ z : Int32, z = (x2 + 1) := ⟨_, rfl⟩
              have h := lt_at ev1 h
              refine lv_iinc (v := v1) (lv' := [(2, .int v1), (0, .ref a0), (1, .int x1), (3, .int x3)]) hx hb dX1_goOn_77 hl (k := 2) rfl (by rw [ev1]; rfl) (by decide) rfl (fun ls hl => ?_)
              exact b80 (f_X1_goOn_l7  b_jobs b_over b_clocks  n) ih  x1 v1 x3 (upd b_states (x3).toNatClampNeg (2 : Int32)) b_gone (upd b_doneIn (x3).toNatClampNeg b_clocks) _ _ _ h hP hS (lv_sub hl [1, 2, 0, 3] rfl)
            · have h := br_n c44 h
              refine lv_aload_n hx hb dX1_goOn_47 rfl (lv_at hl 0 rfl) ?_
              refine gf_X1_24_Book_0 X hP dX1_goOn_48 ?_
              refine lv_iload_n hx hb dX1_goOn_51 rfl (lv_at hl 3 rfl) ?_
              refine lv_dup2_11 hx hb dX1_goOn_52 rfl rfl ?_
              obtain ⟨hi53, h⟩ := gv_of h
              refine al_Book_5 X hP hi53 dX1_goOn_53 ?_
              refine lv_iconst (v := 1) hx hb dX1_goOn_54 rfl ?_
              refine lv_iadd hx hb dX1_goOn_55 ?_
              refine lv_topi (fun v3 ev3 => ?_)
              have h := lt_at ev3 h
              obtain ⟨hi56, h⟩ := gv_of h
              refine as_Book_5 (v0 := v3) X hP hS hi56 dX1_goOn_56 (fun H locs hP hS => ?_)
              refine lv_goto (tgt := 80) hx hb dX1_goOn_57 rfl ?_
              exact b80 (f_X1_goOn_l7  b_jobs b_over b_clocks  n) ih  x1 x2 x3 b_states (upd b_gone (x3).toNatClampNeg v3) b_doneIn _ _ _ h hP hS (lv_sub hl [0, 1, 2, 3] rfl)
          · have h := br_n c31 h
            refine lv_goto (tgt := 80) hx hb dX1_goOn_34 rfl ?_
            exact b80 (f_X1_goOn_l7  b_jobs b_over b_clocks  n) ih  x1 x2 x3 b_states b_gone b_doneIn _ _ _ h hP hS (lv_sub hl [0, 1, 2, 3] rfl)
  unfold f_X1_goOn at h
  refine lv_iconst (v := 0) hx hb dX1_goOn_0 rfl ?_
  refine lv_istore_n (lv' := [(2, .int 0), (0, .ref a0), (1, .int p0)]) hx hb dX1_goOn_1 rfl hl (by decide) rfl (fun ls hl => ?_)
  refine lv_aload_n hx hb dX1_goOn_2 rfl (lv_at hl 1 rfl) ?_
  refine gf_X1_40_Book_0 X hP dX1_goOn_3 ?_
  refine lv_istore_n (lv' := [(3, .int b_over), (2, .int 0), (0, .ref a0), (1, .int p0)]) hx hb dX1_goOn_6 rfl hl (by decide) rfl (fun ls hl => ?_)
  exact l7  FU p0 (0 : Int32) b_over b_states b_gone b_doneIn _ _ _ h hP hS (lv_sub hl [2, 3, 1, 0] rfl)
abbrev rm_X1_mustWait : Room := { frames := 0, cells := 0, slots := 0, locals := 0 }
set_option maxRecDepth 100000 in
set_option maxHeartbeats 4000000 in
theorem c_X1_mustWait {g : gT} {l : Launch} {A : Nat → Prop} {a0 a1 a2 a3 a4 a5 a6 a7 a8 : Nat} {b_jobs : Int32} {b_over : Int32} {b_clocks : Int32} {b_held : Bool} {b_kinds : Nat → Int32} {b_operands : Nat → Int32} {b_ties : Nat → Int32} {b_states : Nat → Int32} {b_gone : Nat → Int32} {b_toldIn : Nat → Int32} {b_broughtIn : Nat → Int32} {b_doneIn : Nat → Int32} {p0 : Int32} {o : Bool} (h : f_X1_mustWait p0 b_ties b_states = some o) : Std g l yX1_mustWait (.code yX1_mustWait cX1_mustWait 4 (some .boolean) :: gw) rm_X1_mustWait A [.ref a0, .int p0] (wBook g a0 a1 a2 a3 a4 a5 a6 a7 a8 b_jobs b_over b_clocks b_held b_kinds b_operands b_ties b_states b_gone b_toldIn b_broughtIn b_doneIn) (wBook g a0 a1 a2 a3 a4 a5 a6 a7 a8 b_jobs b_over b_clocks b_held b_kinds b_operands b_ties b_states b_gone b_toldIn b_broughtIn b_doneIn) (some (.int (bI o))) := by
  refine std_z (own := RX1) (by decide +kernel) rfl (Nat.le_of_ble_eq_true rfl) ?_
  intro p e s m args below meth c Q X ret H locs hP hS ls hl
  have hx := X.1
  have hb := X.2.1
  have hl : lv_has ls 4 [(0, .ref a0), (1, .int p0)] := hl
  have ret : ∀ {H : Heap} {locs : List Loc} {pc : Nat} {ls : Array Slot} {v : Bool} , some (v) = some o → WP g A (wBook g a0 a1 a2 a3 a4 a5 a6 a7 a8 b_jobs b_over b_clocks b_held b_kinds b_operands b_ties b_states b_gone b_toldIn b_broughtIn b_doneIn) H → va_S A s.heap H locs → decode cX1_mustWait pc = .ok (.ireturn, 1) → W p l e rm_X1_mustWait s m args below meth c H locs 0 0 Q (F0 m pc ls [.int (bI v)]) := by
    intro H locs pc ls v h hP hS hd
    cases h
    exact ret hP hS hd
  have b53 : ∀ (k4 : Int32 → Int32 → Option (Bool)) (hk4 : ∀ (x1 : Int32) (x2 : Int32) (H : Heap) (locs : List Loc) (ls : Array Slot), k4 x1 x2 = some o → WP g A (wBook g a0 a1 a2 a3 a4 a5 a6 a7 a8 b_jobs b_over b_clocks b_held b_kinds b_operands b_ties b_states b_gone b_toldIn b_broughtIn b_doneIn) H → va_S A s.heap H locs → lv_has ls 4 [(0, .ref a0), (1, .int x1), (2, .int x2)] → W p l e rm_X1_mustWait s m args below meth c H locs 0 0 Q (F0 m 4 ls [])) , ∀ (x1 : Int32) (x2 : Int32) (H : Heap) (locs : List Loc) (ls : Array Slot), f_X1_mustWait_b53  b_ties b_states k4 x1 x2 = some o → WP g A (wBook g a0 a1 a2 a3 a4 a5 a6 a7 a8 b_jobs b_over b_clocks b_held b_kinds b_operands b_ties b_states b_gone b_toldIn b_broughtIn b_doneIn) H → va_S A s.heap H locs → lv_has ls 4 [(0, .ref a0), (1, .int x1), (2, .int x2)] → W p l e rm_X1_mustWait s m args below meth c H locs 0 0 Q (F0 m 53 ls []) := by
    intro k4 hk4 x1 x2 H locs ls h hP hS hl
    unfold f_X1_mustWait_b53 at h
    obtain ⟨v3, ev3⟩ : ∃ z : Int32, z = (x2 + 1) := ⟨_, rfl⟩
    have h := lt_at ev3 h
    refine lv_iinc (v := v3) (lv' := [(2, .int v3), (0, .ref a0), (1, .int x1)]) hx hb dX1_mustWait_53 hl (k := 2) rfl (by rw [ev3]; rfl) (by decide) rfl (fun ls hl => ?_)
    refine lv_goto (tgt := 4) hx hb dX1_mustWait_56 rfl ?_
    exact hk4 x1 v3 _ _ _ h hP hS (lv_sub hl [1, 2, 0] rfl)
  have b51 : ∀  (H : Heap) (locs : List Loc) (ls : Array Slot), f_X1_mustWait_b51  b_ties b_states   = some o → WP g A (wBook g a0 a1 a2 a3 a4 a5 a6 a7 a8 b_jobs b_over b_clocks b_held b_kinds b_operands b_ties b_states b_gone b_toldIn b_broughtIn b_doneIn) H → va_S A s.heap H locs → lv_has ls 4 [] → W p l e rm_X1_mustWait s m args below meth c H locs 0 0 Q (F0 m 51 ls []) := by
    intro   H locs ls h hP hS hl
    unfold f_X1_mustWait_b51 at h
    refine lv_iconst (v := 1) hx hb dX1_mustWait_51 rfl ?_
    exact ret h hP hS dX1_mustWait_52
  have l4 : ∀ (n : Nat), ∀ (x1 : Int32) (x2 : Int32) (H : Heap) (locs : List Loc) (ls : Array Slot), f_X1_mustWait_l4  b_ties b_states  n x1 x2 = some o → WP g A (wBook g a0 a1 a2 a3 a4 a5 a6 a7 a8 b_jobs b_over b_clocks b_held b_kinds b_operands b_ties b_states b_gone b_toldIn b_broughtIn b_doneIn) H → va_S A s.heap H locs → lv_has ls 4 [(0, .ref a0), (1, .int x1), (2, .int x2)] → W p l e rm_X1_mustWait s m args below meth c H locs 0 0 Q (F0 m 4 ls []) := by
    intro  n
    induction n with
    | zero =>
      intro x1 x2 H locs ls h
      exact nz_of h
    | succ n ih =>
      intro x1 x2 H locs ls h hP hS hl
      rw [f_X1_mustWait_l4] at h
      refine lv_iload_n hx hb dX1_mustWait_4 rfl (lv_at hl 2 rfl) ?_
      refine lv_iload_n hx hb dX1_mustWait_5 rfl (lv_at hl 1 rfl) ?_
      refine lv_iconst (v := 1) hx hb dX1_mustWait_6 rfl ?_
      refine lv_iadd hx hb dX1_mustWait_7 ?_
      refine lv_iconst (v := 3) hx hb dX1_mustWait_8 rfl ?_
      refine lv_imul hx hb dX1_mustWait_9 ?_
      refine lv_icmp_ge (tgt := 59) hx hb dX1_mustWait_10 rfl (fun c10 => ?_) (fun c10 => ?_)
      · have h := br_p c10 h
        refine lv_iconst (v := 0) hx hb dX1_mustWait_59 rfl ?_
        exact ret h hP hS dX1_mustWait_60
      · have h := br_n c10 h
        refine lv_aload_n hx hb dX1_mustWait_13 rfl (lv_at hl 0 rfl) ?_
        refine gf_X1_18_Book_0 X hP dX1_mustWait_14 ?_
        refine lv_iload_n hx hb dX1_mustWait_17 rfl (lv_at hl 2 rfl) ?_
        obtain ⟨hi18, h⟩ := gv_of h
        refine al_Book_3 X hP hi18 dX1_mustWait_18 ?_
        refine lv_iconst (v := 1) hx hb dX1_mustWait_19 rfl ?_
        refine lv_ishr hx hb dX1_mustWait_20 ?_
        refine lv_topi (fun v2 ev2 => ?_)
        have h := lt_at ev2 h
        refine lv_istore_n (lv' := [(3, .int v2), (0, .ref a0), (1, .int x1), (2, .int x2)]) hx hb dX1_mustWait_21 rfl hl (by decide) rfl (fun ls hl => ?_)
        refine lv_aload_n hx hb dX1_mustWait_22 rfl (lv_at hl 1 rfl) ?_
        refine gf_X1_18_Book_0 X hP dX1_mustWait_23 ?_
        refine lv_iload_n hx hb dX1_mustWait_26 rfl (lv_at hl 3 rfl) ?_
        obtain ⟨hi27, h⟩ := gv_of h
        refine al_Book_3 X hP hi27 dX1_mustWait_27 ?_
        refine lv_iconst (v := (-1)) hx hb dX1_mustWait_28 rfl ?_
        refine lv_icmp_eq (tgt := 53) hx hb dX1_mustWait_29 rfl (fun c29 => ?_) (fun c29 => ?_)
        · have h := br_p c29 h
          exact b53 (f_X1_mustWait_l4  b_ties b_states  n) ih  x1 x2 _ _ _ h hP hS (lv_sub hl [1, 2, 3] rfl)
        · have h := br_n c29 h
          refine lv_aload_n hx hb dX1_mustWait_32 rfl (lv_at hl 1 rfl) ?_
          refine gf_X1_21_Book_0 X hP dX1_mustWait_33 ?_
          refine lv_iload_n hx hb dX1_mustWait_36 rfl (lv_at hl 0 rfl) ?_
          obtain ⟨hi37, h⟩ := gv_of h
          refine al_Book_4 X hP hi37 dX1_mustWait_37 ?_
          refine lv_if_eq (tgt := 51) hx hb dX1_mustWait_38 rfl (fun c38 => ?_) (fun c38 => ?_)
          · have h := br_p c38 h
            exact b51    _ _ _ h hP hS (lv_sub hl [] rfl)
          · have h := br_n c38 h
            refine lv_aload_n hx hb dX1_mustWait_41 rfl (lv_at hl 1 rfl) ?_
            refine gf_X1_21_Book_0 X hP dX1_mustWait_42 ?_
            refine lv_iload_n hx hb dX1_mustWait_45 rfl (lv_at hl 0 rfl) ?_
            obtain ⟨hi46, h⟩ := gv_of h
            refine al_Book_4 X hP hi46 dX1_mustWait_46 ?_
            refine lv_iconst (v := 1) hx hb dX1_mustWait_47 rfl ?_
            refine lv_icmp_ne (tgt := 53) hx hb dX1_mustWait_48 rfl (fun c48 => ?_) (fun c48 => ?_)
            · have h := br_n c48 h
              exact b53 (f_X1_mustWait_l4  b_ties b_states  n) ih  x1 x2 _ _ _ h hP hS (lv_sub hl [1, 2, 3] rfl)
            · have h := br_p c48 h
              exact b51    _ _ _ h hP hS (lv_sub hl [] rfl)
  unfold f_X1_mustWait at h
  refine lv_iload_n hx hb dX1_mustWait_0 rfl (lv_at hl 1 rfl) ?_
  refine lv_iconst (v := 3) hx hb dX1_mustWait_1 rfl ?_
  refine lv_imul hx hb dX1_mustWait_2 ?_
  refine lv_topi (fun v1 ev1 => ?_)
  have h := lt_at ev1 h
  refine lv_istore_n (lv' := [(2, .int v1), (0, .ref a0), (1, .int p0)]) hx hb dX1_mustWait_3 rfl hl (by decide) rfl (fun ls hl => ?_)
  exact l4  FU p0 v1 _ _ _ h hP hS (lv_sub hl [1, 2, 0] rfl)
abbrev rm_X7_isTo : Room := { frames := 0, cells := 0, slots := 0, locals := 0 }
set_option maxRecDepth 100000 in
set_option maxHeartbeats 4000000 in
theorem c_X7_isTo {g : gT} {l : Launch} {A : Nat → Prop} {a0 a1 a2 a3 a4 a5 a6 : Nat} {r_x : Int64} {r_y : Int64} {r_z : Int64} {r_upBits : Int32} {r_steps : Int32} {r_first : Int64} {r_second : Int64} {u_width : Int32} {u_guard : Int32} {u_bits : Int32} {u_stages : Int32} {u_places : Int32} {u_near : Bool} {u_quarter : Int64} {u_eighth : Int64} {u_ln : Int64} {u_shifts : Nat → Int32} {u_angles : Nat → Int64} {u_gains : Nat → Int64} {u_undos : Nat → Int64} {u_digits : Nat → Int32} {p0 : Int64} {p1 : Int32} {o : Bool} (h : f_X7_isTo p0 p1 u_width = some o) : Std g l yX7_isTo (.code yX7_isTo cX7_isTo 6 (some .boolean) :: gw) rm_X7_isTo A [.ref a0, .long p0, .int p1] (wTurner g a0 a1 a2 a3 a4 a5 a6 r_x r_y r_z r_upBits r_steps r_first r_second u_width u_guard u_bits u_stages u_places u_near u_quarter u_eighth u_ln u_shifts u_angles u_gains u_undos u_digits) (wTurner g a0 a1 a2 a3 a4 a5 a6 r_x r_y r_z r_upBits r_steps r_first r_second u_width u_guard u_bits u_stages u_places u_near u_quarter u_eighth u_ln u_shifts u_angles u_gains u_undos u_digits) (some (.int (bI o))) := by
  refine std_z (own := RX7) (by decide +kernel) rfl (Nat.le_of_ble_eq_true rfl) ?_
  intro p e s m args below meth c Q X ret H locs hP hS ls hl
  have hx := X.1
  have hb := X.2.1
  have hl : lv_has ls 6 [(0, .ref a0), (1, .long p0), (3, .int p1)] := hl
  have ret : ∀ {H : Heap} {locs : List Loc} {pc : Nat} {ls : Array Slot} {v : Bool} , some (v) = some o → WP g A (wTurner g a0 a1 a2 a3 a4 a5 a6 r_x r_y r_z r_upBits r_steps r_first r_second u_width u_guard u_bits u_stages u_places u_near u_quarter u_eighth u_ln u_shifts u_angles u_gains u_undos u_digits) H → va_S A s.heap H locs → decode cX7_isTo pc = .ok (.ireturn, 1) → W p l e rm_X7_isTo s m args below meth c H locs 0 0 Q (F0 m pc ls [.int (bI v)]) := by
    intro H locs pc ls v h hP hS hd
    cases h
    exact ret hP hS hd
  unfold f_X7_isTo at h
  refine lv_lconst (v := 1) hx hb dX7_isTo_0 rfl ?_
  refine lv_aload_n hx hb dX7_isTo_1 rfl (lv_at hl 0 rfl) ?_
  refine gf_X7_9_Turner_0 X hP dX7_isTo_2 ?_
  refine gf_X7_68_Turner_1 X hP dX7_isTo_5 ?_
  refine lv_iload_n hx hb dX7_isTo_8 rfl (lv_at hl 2 rfl) ?_
  refine lv_iadd hx hb dX7_isTo_9 ?_
  refine lv_lshl hx hb dX7_isTo_10 rfl ?_
  refine lv_topl (fun v1 ev1 => ?_)
  have h := lt_at ev1 h
  refine lv_lstore (lv' := [(4, .long v1), (0, .ref a0), (1, .long p0), (3, .int p1)]) hx hb dX7_isTo_11 hl (by decide) rfl (fun ls hl => ?_)
  refine lv_lload_n hx hb dX7_isTo_13 rfl (lv_at hl 2 rfl) ?_
  refine lv_lload hx hb dX7_isTo_14 (lv_at hl 0 rfl) ?_
  refine lv_lneg hx hb dX7_isTo_16 ?_
  refine jx1 h (P := fun (v2 : Bool) => ∀ ls : Array Slot, lv_has ls 6 [] → W p l e rm_X7_isTo s m args below meth c H locs 0 0 Q (F0 m 33 ls [.int (bI v2)])) ?_ ?_
  · intro v2 h ls hl
    exact ret h hP hS dX7_isTo_33
  · intro J h
    refine rl_lt (tgt := 32) hx hb dX7_isTo_17 dX7_isTo_18 rfl (fun c17 => ?_) (fun c17 => ?_)
    · refine lv_iconst (v := 0) hx hb dX7_isTo_32 rfl ?_
      exact J _ (lt_ip c17 h) ls (lv_sub hl [] rfl)
    · refine lv_lload_n hx hb dX7_isTo_21 rfl (lv_at hl 2 rfl) ?_
      refine lv_lload hx hb dX7_isTo_22 (lv_at hl 0 rfl) ?_
      refine rl_gt (tgt := 32) hx hb dX7_isTo_24 dX7_isTo_25 rfl (fun c24 => ?_) (fun c24 => ?_)
      · refine lv_iconst (v := 0) hx hb dX7_isTo_32 rfl ?_
        exact J _ (lt_ip c24 (lt_in c17 h)) ls (lv_sub hl [] rfl)
      · refine lv_iconst (v := 1) hx hb dX7_isTo_28 rfl ?_
        refine lv_goto (tgt := 33) hx hb dX7_isTo_29 rfl ?_
        exact J _ (lt_in c24 (lt_in c17 h)) ls (lv_sub hl [] rfl)
abbrev rm_J9_abs_067f4 : Room := { frames := 0, cells := 0, slots := 0, locals := 0 }
set_option maxRecDepth 100000 in
set_option maxHeartbeats 4000000 in
theorem c_J9_abs_067f4 {g : gT} {l : Launch} {A : Nat → Prop} {w : va_W} {p0 : Int64} {o : Int64} (h : f_J9_abs_067f4 p0  = some o) : Std g l yJ9_abs_067f4 (.code yJ9_abs_067f4 cJ9_abs_067f4 2 (some .long) :: gw) rm_J9_abs_067f4 A [.long p0] w w (some (.long o)) := by
  refine std_l (own := RJ9) (by decide +kernel) rfl (Nat.le_of_ble_eq_true rfl) ?_
  intro p e s m args below meth c Q X ret H locs hP hS ls hl
  have hx := X.1
  have hb := X.2.1
  have hl : lv_has ls 2 [(0, .long p0)] := hl
  have ret : ∀ {H : Heap} {locs : List Loc} {pc : Nat} {ls : Array Slot} {v : Int64} , some (v) = some o → WP g A w H → va_S A s.heap H locs → decode cJ9_abs_067f4 pc = .ok (.lreturn, 1) → W p l e rm_J9_abs_067f4 s m args below meth c H locs 0 0 Q (F0 m pc ls [.long v]) := by
    intro H locs pc ls v h hP hS hd
    cases h
    exact ret hP hS hd
  unfold f_J9_abs_067f4 at h
  refine lv_lload_n hx hb dJ9_abs_067f4_0 rfl (lv_at hl 0 rfl) ?_
  refine lv_lconst (v := 0) hx hb dJ9_abs_067f4_1 rfl ?_
  refine jx1 h (P := fun (v1 : Int64) => ∀ ls : Array Slot, lv_has ls 2 [] → W p l e rm_J9_abs_067f4 s m args below meth c H locs 0 0 Q (F0 m 12 ls [.long v1])) ?_ ?_
  · intro v1 h ls hl
    exact ret h hP hS dJ9_abs_067f4_12
  · intro J h
    refine rl_ge (tgt := 11) hx hb dJ9_abs_067f4_2 dJ9_abs_067f4_3 rfl (fun c2 => ?_) (fun c2 => ?_)
    · refine lv_lload_n hx hb dJ9_abs_067f4_11 rfl (lv_at hl 0 rfl) ?_
      exact J _ (lt_ip c2 h) ls (lv_sub hl [] rfl)
    · refine lv_lload_n hx hb dJ9_abs_067f4_6 rfl (lv_at hl 0 rfl) ?_
      refine lv_lneg hx hb dJ9_abs_067f4_7 ?_
      refine lv_goto (tgt := 12) hx hb dJ9_abs_067f4_8 rfl ?_
      exact J _ (lt_in c2 h) ls (lv_sub hl [] rfl)
abbrev rm_X7_stepsOver : Room := { frames := 1, cells := 0, slots := 0, locals := 21 }
set_option maxRecDepth 100000 in
set_option maxHeartbeats 4000000 in
theorem c_X7_stepsOver {g : gT} {l : Launch} {A : Nat → Prop} {w : va_W} {p0 : Int64} {p1 : Int64} {o : Int32} (h : f_X7_stepsOver p0 p1  = some o) : Std g l yX7_stepsOver (.code yX7_stepsOver cX7_stepsOver 5 (some .int) :: gw) rm_X7_stepsOver A [.long p0, .long p1] w w (some (.int o)) := by
  refine std_i (own := RX7) (by decide +kernel) rfl (Nat.le_of_ble_eq_true rfl) ?_
  intro p e s m args below meth c Q X ret H locs hP hS ls hl
  have hx := X.1
  have hb := X.2.1
  have hl : lv_has ls 5 [(0, .long p0), (2, .long p1)] := hl
  have ret : ∀ {H : Heap} {locs : List Loc} {pc : Nat} {ls : Array Slot} {v : Int32} , some (v) = some o → WP g A w H → va_S A s.heap H locs → decode cX7_stepsOver pc = .ok (.ireturn, 1) → W p l e rm_X7_stepsOver s m args below meth c H locs 0 0 Q (F0 m pc ls [.int v]) := by
    intro H locs pc ls v h hP hS hd
    cases h
    exact ret hP hS hd
  have b31 : ∀ (x4 : Int32) (H : Heap) (locs : List Loc) (ls : Array Slot), f_X7_stepsOver_b31    x4 = some o → WP g A w H → va_S A s.heap H locs → lv_has ls 5 [(4, .int x4)] → W p l e rm_X7_stepsOver s m args below meth c H locs 0 0 Q (F0 m 31 ls []) := by
    intro  x4 H locs ls h hP hS hl
    unfold f_X7_stepsOver_b31 at h
    refine lv_iload hx hb dX7_stepsOver_31 (lv_at hl 0 rfl) ?_
    exact ret h hP hS dX7_stepsOver_33
  have l3 : ∀ (n : Nat), ∀ (x0 : Int64) (x2 : Int64) (x4 : Int32) (H : Heap) (locs : List Loc) (ls : Array Slot), f_X7_stepsOver_l3    n x0 x2 x4 = some o → WP g A w H → va_S A s.heap H locs → lv_has ls 5 [(0, .long x0), (2, .long x2), (4, .int x4)] → W p l e rm_X7_stepsOver s m args below meth c H locs 0 0 Q (F0 m 3 ls []) := by
    intro  n
    induction n with
    | zero =>
      intro x0 x2 x4 H locs ls h
      exact nz_of h
    | succ n ih =>
      intro x0 x2 x4 H locs ls h hP hS hl
      rw [f_X7_stepsOver_l3] at h
      refine lv_iload hx hb dX7_stepsOver_3 (lv_at hl 2 rfl) ?_
      refine lv_bipush (v := 7) hx hb dX7_stepsOver_5 rfl ?_
      refine lv_icmp_ge (tgt := 31) hx hb dX7_stepsOver_7 rfl (fun c7 => ?_) (fun c7 => ?_)
      · have h := br_p c7 h
        exact b31   x4 _ _ _ h hP hS (lv_sub hl [2] rfl)
      · have h := br_n c7 h
        refine lv_lload_n hx hb dX7_stepsOver_10 rfl (lv_at hl 0 rfl) ?_
        obtain ⟨o1, hco1, h⟩ := bd_of h
        refine kS (rest := []) X dX7_stepsOver_11 wd_3_170 mw_J9_abs_067f4 wd_3_171 hP hS (fun _ z => z) (c_J9_abs_067f4 hco1) rfl hl.1 rfl (Nat.le_of_ble_eq_true rfl) rfl rfl ⟨Nat.le_of_ble_eq_true rfl, Nat.le_of_ble_eq_true rfl⟩ (fun H locs hP _ _ hS => ?_)
        refine W.eq (g2 := F0 m 14 ls [.long o1]) rfl ?_
        refine lv_lload_n hx hb dX7_stepsOver_14 rfl (lv_at hl 1 rfl) ?_
        obtain ⟨o2, hco2, h⟩ := bd_of h
        refine kS (rest := [.long o1]) X dX7_stepsOver_15 wd_3_170 mw_J9_abs_067f4 wd_3_171 hP hS (fun _ z => z) (c_J9_abs_067f4 hco2) rfl hl.1 rfl (Nat.le_of_ble_eq_true rfl) rfl rfl ⟨Nat.le_of_ble_eq_true rfl, Nat.le_of_ble_eq_true rfl⟩ (fun H locs hP _ _ hS => ?_)
        refine W.eq (g2 := F0 m 18 ls [.long o2, .long o1]) rfl ?_
        refine lv_iload hx hb dX7_stepsOver_18 (lv_at hl 2 rfl) ?_
        refine lv_lshl hx hb dX7_stepsOver_20 rfl ?_
        refine rl_le (tgt := 31) hx hb dX7_stepsOver_21 dX7_stepsOver_22 rfl (fun c21 => ?_) (fun c21 => ?_)
        · have h := br_p c21 h
          exact b31   x4 _ _ _ h hP hS (lv_sub hl [2] rfl)
        · have h := br_n c21 h
          obtain ⟨v3, ev3⟩ : ∃ z : Int32, z = (x4 + 1) := ⟨_, rfl⟩
          have h := lt_at ev3 h
          refine lv_iinc (v := v3) (lv' := [(4, .int v3), (0, .long x0), (2, .long x2)]) hx hb dX7_stepsOver_25 hl (k := 2) rfl (by rw [ev3]; rfl) (by decide) rfl (fun ls hl => ?_)
          refine lv_goto (tgt := 3) hx hb dX7_stepsOver_28 rfl ?_
          exact ih x0 x2 v3 _ _ _ h hP hS (lv_sub hl [1, 2, 0] rfl)
  unfold f_X7_stepsOver at h
  refine lv_iconst (v := 0) hx hb dX7_stepsOver_0 rfl ?_
  refine lv_istore (lv' := [(4, .int 0), (0, .long p0), (2, .long p1)]) hx hb dX7_stepsOver_1 hl (by decide) rfl (fun ls hl => ?_)
  exact l3  FU p0 p1 (0 : Int32) _ _ _ h hP hS (lv_sub hl [1, 2, 0] rfl)
abbrev rm_X7_fits : Room := { frames := 2, cells := 0, slots := 0, locals := 45 }
set_option maxRecDepth 100000 in
set_option maxHeartbeats 4000000 in
theorem c_X7_fits {g : gT} {l : Launch} {A : Nat → Prop} {a0 a1 a2 a3 a4 a5 a6 : Nat} {r_x : Int64} {r_y : Int64} {r_z : Int64} {r_upBits : Int32} {r_steps : Int32} {r_first : Int64} {r_second : Int64} {u_width : Int32} {u_guard : Int32} {u_bits : Int32} {u_stages : Int32} {u_places : Int32} {u_near : Bool} {u_quarter : Int64} {u_eighth : Int64} {u_ln : Int64} {u_shifts : Nat → Int32} {u_angles : Nat → Int64} {u_gains : Nat → Int64} {u_undos : Nat → Int64} {u_digits : Nat → Int32} {p0 : Int32} {p1 : Int64} {p2 : Int64} {p3 : Int64} {o : Bool} (h : f_X7_fits p0 p1 p2 p3 u_width = some o) : Std g l yX7_fits (.code yX7_fits cX7_fits 8 (some .boolean) :: gw) rm_X7_fits A [.ref a0, .int p0, .long p1, .long p2, .long p3] (wTurner g a0 a1 a2 a3 a4 a5 a6 r_x r_y r_z r_upBits r_steps r_first r_second u_width u_guard u_bits u_stages u_places u_near u_quarter u_eighth u_ln u_shifts u_angles u_gains u_undos u_digits) (wTurner g a0 a1 a2 a3 a4 a5 a6 r_x r_y r_z r_upBits r_steps r_first r_second u_width u_guard u_bits u_stages u_places u_near u_quarter u_eighth u_ln u_shifts u_angles u_gains u_undos u_digits) (some (.int (bI o))) := by
  refine std_z (own := RX7) (by decide +kernel) rfl (Nat.le_of_ble_eq_true rfl) ?_
  intro p e s m args below meth c Q X ret H locs hP hS ls hl
  have hx := X.1
  have hb := X.2.1
  have hl : lv_has ls 8 [(0, .ref a0), (1, .int p0), (2, .long p1), (4, .long p2), (6, .long p3)] := hl
  have ret : ∀ {H : Heap} {locs : List Loc} {pc : Nat} {ls : Array Slot} {v : Bool} , some (v) = some o → WP g A (wTurner g a0 a1 a2 a3 a4 a5 a6 r_x r_y r_z r_upBits r_steps r_first r_second u_width u_guard u_bits u_stages u_places u_near u_quarter u_eighth u_ln u_shifts u_angles u_gains u_undos u_digits) H → va_S A s.heap H locs → decode cX7_fits pc = .ok (.ireturn, 1) → W p l e rm_X7_fits s m args below meth c H locs 0 0 Q (F0 m pc ls [.int (bI v)]) := by
    intro H locs pc ls v h hP hS hd
    cases h
    exact ret hP hS hd
  have b99 : ∀  (H : Heap) (locs : List Loc) (ls : Array Slot), f_X7_fits_b99  u_width   = some o → WP g A (wTurner g a0 a1 a2 a3 a4 a5 a6 r_x r_y r_z r_upBits r_steps r_first r_second u_width u_guard u_bits u_stages u_places u_near u_quarter u_eighth u_ln u_shifts u_angles u_gains u_undos u_digits) H → va_S A s.heap H locs → lv_has ls 8 [] → W p l e rm_X7_fits s m args below meth c H locs 0 0 Q (F0 m 99 ls []) := by
    intro   H locs ls h hP hS hl
    unfold f_X7_fits_b99 at h
    refine lv_iconst (v := 0) hx hb dX7_fits_99 rfl ?_
    exact ret h hP hS dX7_fits_100
  have b124 : ∀  (H : Heap) (locs : List Loc) (ls : Array Slot), f_X7_fits_b124  u_width   = some o → WP g A (wTurner g a0 a1 a2 a3 a4 a5 a6 r_x r_y r_z r_upBits r_steps r_first r_second u_width u_guard u_bits u_stages u_places u_near u_quarter u_eighth u_ln u_shifts u_angles u_gains u_undos u_digits) H → va_S A s.heap H locs → lv_has ls 8 [] → W p l e rm_X7_fits s m args below meth c H locs 0 0 Q (F0 m 124 ls []) := by
    intro   H locs ls h hP hS hl
    unfold f_X7_fits_b124 at h
    refine lv_iconst (v := 0) hx hb dX7_fits_124 rfl ?_
    exact ret h hP hS dX7_fits_125
  have b167 : ∀  (H : Heap) (locs : List Loc) (ls : Array Slot), f_X7_fits_b167  u_width   = some o → WP g A (wTurner g a0 a1 a2 a3 a4 a5 a6 r_x r_y r_z r_upBits r_steps r_first r_second u_width u_guard u_bits u_stages u_places u_near u_quarter u_eighth u_ln u_shifts u_angles u_gains u_undos u_digits) H → va_S A s.heap H locs → lv_has ls 8 [] → W p l e rm_X7_fits s m args below meth c H locs 0 0 Q (F0 m 167 ls []) := by
    intro   H locs ls h hP hS hl
    unfold f_X7_fits_b167 at h
    refine lv_iconst (v := 0) hx hb dX7_fits_167 rfl ?_
    exact ret h hP hS dX7_fits_168
  have b216 : ∀  (H : Heap) (locs : List Loc) (ls : Array Slot), f_X7_fits_b216  u_width   = some o → WP g A (wTurner g a0 a1 a2 a3 a4 a5 a6 r_x r_y r_z r_upBits r_steps r_first r_second u_width u_guard u_bits u_stages u_places u_near u_quarter u_eighth u_ln u_shifts u_angles u_gains u_undos u_digits) H → va_S A s.heap H locs → lv_has ls 8 [] → W p l e rm_X7_fits s m args below meth c H locs 0 0 Q (F0 m 216 ls []) := by
    intro   H locs ls h hP hS hl
    unfold f_X7_fits_b216 at h
    refine lv_iconst (v := 0) hx hb dX7_fits_216 rfl ?_
    exact ret h hP hS dX7_fits_217
  have b237 : ∀  (H : Heap) (locs : List Loc) (ls : Array Slot), f_X7_fits_b237  u_width   = some o → WP g A (wTurner g a0 a1 a2 a3 a4 a5 a6 r_x r_y r_z r_upBits r_steps r_first r_second u_width u_guard u_bits u_stages u_places u_near u_quarter u_eighth u_ln u_shifts u_angles u_gains u_undos u_digits) H → va_S A s.heap H locs → lv_has ls 8 [] → W p l e rm_X7_fits s m args below meth c H locs 0 0 Q (F0 m 237 ls []) := by
    intro   H locs ls h hP hS hl
    unfold f_X7_fits_b237 at h
    refine lv_iconst (v := 0) hx hb dX7_fits_237 rfl ?_
    exact ret h hP hS dX7_fits_238
  unfold f_X7_fits at h
  refine sgO X hS (sfX X).2.2.1 wd_3_157 dX7_fits_0 ?_
  refine sgN X hS (sfX X).1 wd_3_159 dX7_fits_3 ?_
  refine lv_iload_n hx hb dX7_fits_6 rfl (lv_at hl 1 rfl) ?_
  obtain ⟨hi7, h⟩ := gv_of h
  refine stq X hS (sfX X).2.2.2.2.2.2.2.1 hi7 dX7_fits_7 ?_
  refine W.eq (g2 := F0 m 8 ls [.ref (g.2 (20 + (p0).toNatClampNeg)), .ref (g.2 7)]) rfl ?_
  refine ord_row (E := "TurnShifts$Kind") (rest := [.ref (g.2 7)]) X hl.1 hS ((sfX X).2.2.2.2.2.2.2.2.2.2.2.2.1 _ (vin_lt hi7)).1 ((sfX X).2.2.2.2.2.2.2.2.2.2.2.2.1 _ (vin_lt hi7)).2.1 wd_3_160 wd_3_161 wd_3_162 (Nat.le_of_ble_eq_true rfl) (Nat.le_of_ble_eq_true rfl) dX7_fits_8 (Nat.le_of_ble_eq_true rfl) ?_
  refine W.eq (g2 := F0 m 11 ls [.int (Int32.ofNat (p0).toNatClampNeg), .ref (g.2 7)]) rfl ?_
  obtain ⟨hi11, h⟩ := gv_of h
  refine sti X hS (sfX X).2.2.2.2.2.2.2.2.2.1 hi11 dX7_fits_11 ?_
  refine W.eq (g2 := F0 m 12 ls [.int (swK ((Int32.ofNat (p0).toNatClampNeg)).toNatClampNeg)]) rfl ?_
  by_cases c12_1 : (swK ((Int32.ofNat (p0).toNatClampNeg)).toNatClampNeg) = 1
  · have h := br_p c12_1 h
    refine lv_tableIn (off := 44) (tgt := 56) hx hb dX7_fits_12 (by rw [c12_1]; decide) (by rw [c12_1]; decide) (by rw [c12_1]; rfl) rfl ?_
    refine lv_aload_n hx hb dX7_fits_56 rfl (lv_at hl 0 rfl) ?_
    refine lv_lload_n hx hb dX7_fits_57 rfl (lv_at hl 2 rfl) ?_
    refine lv_iconst (v := 5) hx hb dX7_fits_58 rfl ?_
    obtain ⟨o1, hco1, h⟩ := bd_of h
    refine kV (rest := []) X dX7_fits_59 wd_3_163 mw_X7_isTo wd_3_165 wp_3_11 hP (k0 := 0) rfl rfl rfl hS (fun _ z => z) (c_X7_isTo hco1) rfl hl.1 rfl (Nat.le_of_ble_eq_true rfl) rfl rfl ⟨Nat.le_of_ble_eq_true rfl, Nat.le_of_ble_eq_true rfl⟩ (fun H locs hP _ _ hS => ?_)
    refine W.eq (g2 := F0 m 62 ls [.int (bI o1)]) rfl ?_
    exact ret h hP hS dX7_fits_62
  have h := br_n c12_1 h
  by_cases c12_2 : (swK ((Int32.ofNat (p0).toNatClampNeg)).toNatClampNeg) = 2
  · have h := br_p c12_2 h
    refine lv_tableIn (off := 51) (tgt := 63) hx hb dX7_fits_12 (by rw [c12_2]; decide) (by rw [c12_2]; decide) (by rw [c12_2]; rfl) rfl ?_
    refine lv_aload_n hx hb dX7_fits_63 rfl (lv_at hl 0 rfl) ?_
    refine lv_lload_n hx hb dX7_fits_64 rfl (lv_at hl 2 rfl) ?_
    refine lv_iconst (v := 5) hx hb dX7_fits_65 rfl ?_
    obtain ⟨o2, hco2, h⟩ := bd_of h
    refine kV (rest := []) X dX7_fits_66 wd_3_163 mw_X7_isTo wd_3_165 wp_3_11 hP (k0 := 0) rfl rfl rfl hS (fun _ z => z) (c_X7_isTo hco2) rfl hl.1 rfl (Nat.le_of_ble_eq_true rfl) rfl rfl ⟨Nat.le_of_ble_eq_true rfl, Nat.le_of_ble_eq_true rfl⟩ (fun H locs hP _ _ hS => ?_)
    refine W.eq (g2 := F0 m 69 ls [.int (bI o2)]) rfl ?_
    refine rb_eq (tgt := 99) hx hb dX7_fits_69 rfl (fun c69 => ?_) (fun c69 => ?_)
    · have h := br_n c69 h
      exact b99    _ _ _ h hP hS (lv_sub hl [] rfl)
    · have h := br_p c69 h
      refine lv_aload_n hx hb dX7_fits_72 rfl (lv_at hl 0 rfl) ?_
      refine lv_lload hx hb dX7_fits_73 (lv_at hl 3 rfl) ?_
      refine lv_iconst (v := 5) hx hb dX7_fits_75 rfl ?_
      obtain ⟨o3, hco3, h⟩ := bd_of h
      refine kV (rest := []) X dX7_fits_76 wd_3_163 mw_X7_isTo wd_3_165 wp_3_11 hP (k0 := 0) rfl rfl rfl hS (fun _ z => z) (c_X7_isTo hco3) rfl hl.1 rfl (Nat.le_of_ble_eq_true rfl) rfl rfl ⟨Nat.le_of_ble_eq_true rfl, Nat.le_of_ble_eq_true rfl⟩ (fun H locs hP _ _ hS => ?_)
      refine W.eq (g2 := F0 m 79 ls [.int (bI o3)]) rfl ?_
      refine jx1 h (P := fun (v4 : Bool) => ∀ ls : Array Slot, lv_has ls 8 [] → W p l e rm_X7_fits s m args below meth c H locs 0 0 Q (F0 m 100 ls [.int (bI v4)])) ?_ ?_
      · intro v4 h ls hl
        exact ret h hP hS dX7_fits_100
      · intro J h
        refine rb_eq (tgt := 99) hx hb dX7_fits_79 rfl (fun c79 => ?_) (fun c79 => ?_)
        · refine lv_iconst (v := 0) hx hb dX7_fits_99 rfl ?_
          exact J _ (lt_in c79 h) ls (lv_sub hl [] rfl)
        · refine lv_lload_n hx hb dX7_fits_82 rfl (lv_at hl 2 rfl) ?_
          refine lv_lconst (v := 0) hx hb dX7_fits_83 rfl ?_
          refine rl_ne (tgt := 95) hx hb dX7_fits_84 dX7_fits_85 rfl (fun c84 => ?_) (fun c84 => ?_)
          · refine lv_iconst (v := 1) hx hb dX7_fits_95 rfl ?_
            refine lv_goto (tgt := 100) hx hb dX7_fits_96 rfl ?_
            exact J _ (lt_in c84 (lt_ip c79 h)) ls (lv_sub hl [] rfl)
          · refine lv_lload hx hb dX7_fits_88 (lv_at hl 3 rfl) ?_
            refine lv_lconst (v := 0) hx hb dX7_fits_90 rfl ?_
            refine rl_eq (tgt := 99) hx hb dX7_fits_91 dX7_fits_92 rfl (fun c91 => ?_) (fun c91 => ?_)
            · refine lv_iconst (v := 0) hx hb dX7_fits_99 rfl ?_
              exact J _ (lt_ip c91 (lt_ip c84 (lt_ip c79 h))) ls (lv_sub hl [] rfl)
            · refine lv_iconst (v := 1) hx hb dX7_fits_95 rfl ?_
              refine lv_goto (tgt := 100) hx hb dX7_fits_96 rfl ?_
              exact J _ (lt_in c91 (lt_ip c84 (lt_ip c79 h))) ls (lv_sub hl [] rfl)
  have h := br_n c12_2 h
  by_cases c12_3 : (swK ((Int32.ofNat (p0).toNatClampNeg)).toNatClampNeg) = 3
  · have h := br_p c12_3 h
    refine lv_tableIn (off := 89) (tgt := 101) hx hb dX7_fits_12 (by rw [c12_3]; decide) (by rw [c12_3]; decide) (by rw [c12_3]; rfl) rfl ?_
    refine lv_aload_n hx hb dX7_fits_101 rfl (lv_at hl 0 rfl) ?_
    refine lv_lload_n hx hb dX7_fits_102 rfl (lv_at hl 2 rfl) ?_
    refine lv_iconst (v := 4) hx hb dX7_fits_103 rfl ?_
    obtain ⟨o5, hco5, h⟩ := bd_of h
    refine kV (rest := []) X dX7_fits_104 wd_3_163 mw_X7_isTo wd_3_165 wp_3_11 hP (k0 := 0) rfl rfl rfl hS (fun _ z => z) (c_X7_isTo hco5) rfl hl.1 rfl (Nat.le_of_ble_eq_true rfl) rfl rfl ⟨Nat.le_of_ble_eq_true rfl, Nat.le_of_ble_eq_true rfl⟩ (fun H locs hP _ _ hS => ?_)
    refine W.eq (g2 := F0 m 107 ls [.int (bI o5)]) rfl ?_
    refine rb_eq (tgt := 124) hx hb dX7_fits_107 rfl (fun c107 => ?_) (fun c107 => ?_)
    · have h := br_n c107 h
      exact b124    _ _ _ h hP hS (lv_sub hl [] rfl)
    · have h := br_p c107 h
      refine lv_aload_n hx hb dX7_fits_110 rfl (lv_at hl 0 rfl) ?_
      refine lv_lload hx hb dX7_fits_111 (lv_at hl 3 rfl) ?_
      refine lv_iconst (v := 4) hx hb dX7_fits_113 rfl ?_
      obtain ⟨o6, hco6, h⟩ := bd_of h
      refine kV (rest := []) X dX7_fits_114 wd_3_163 mw_X7_isTo wd_3_165 wp_3_11 hP (k0 := 0) rfl rfl rfl hS (fun _ z => z) (c_X7_isTo hco6) rfl hl.1 rfl (Nat.le_of_ble_eq_true rfl) rfl rfl ⟨Nat.le_of_ble_eq_true rfl, Nat.le_of_ble_eq_true rfl⟩ (fun H locs hP _ _ hS => ?_)
      refine W.eq (g2 := F0 m 117 ls [.int (bI o6)]) rfl ?_
      refine jx1 h (P := fun (v7 : Bool) => ∀ ls : Array Slot, lv_has ls 8 [] → W p l e rm_X7_fits s m args below meth c H locs 0 0 Q (F0 m 125 ls [.int (bI v7)])) ?_ ?_
      · intro v7 h ls hl
        exact ret h hP hS dX7_fits_125
      · intro J h
        refine rb_eq (tgt := 124) hx hb dX7_fits_117 rfl (fun c117 => ?_) (fun c117 => ?_)
        · refine lv_iconst (v := 0) hx hb dX7_fits_124 rfl ?_
          exact J _ (lt_in c117 h) ls (lv_sub hl [] rfl)
        · refine lv_iconst (v := 1) hx hb dX7_fits_120 rfl ?_
          refine lv_goto (tgt := 125) hx hb dX7_fits_121 rfl ?_
          exact J _ (lt_ip c117 h) ls (lv_sub hl [] rfl)
  have h := br_n c12_3 h
  by_cases c12_4 : (swK ((Int32.ofNat (p0).toNatClampNeg)).toNatClampNeg) = 4
  · have h := br_p c12_4 h
    refine lv_tableIn (off := 114) (tgt := 126) hx hb dX7_fits_12 (by rw [c12_4]; decide) (by rw [c12_4]; decide) (by rw [c12_4]; rfl) rfl ?_
    refine lv_aload_n hx hb dX7_fits_126 rfl (lv_at hl 0 rfl) ?_
    refine lv_lload_n hx hb dX7_fits_127 rfl (lv_at hl 2 rfl) ?_
    refine lv_iconst (v := 4) hx hb dX7_fits_128 rfl ?_
    obtain ⟨o8, hco8, h⟩ := bd_of h
    refine kV (rest := []) X dX7_fits_129 wd_3_163 mw_X7_isTo wd_3_165 wp_3_11 hP (k0 := 0) rfl rfl rfl hS (fun _ z => z) (c_X7_isTo hco8) rfl hl.1 rfl (Nat.le_of_ble_eq_true rfl) rfl rfl ⟨Nat.le_of_ble_eq_true rfl, Nat.le_of_ble_eq_true rfl⟩ (fun H locs hP _ _ hS => ?_)
    refine W.eq (g2 := F0 m 132 ls [.int (bI o8)]) rfl ?_
    refine rb_eq (tgt := 167) hx hb dX7_fits_132 rfl (fun c132 => ?_) (fun c132 => ?_)
    · have h := br_n c132 h
      exact b167    _ _ _ h hP hS (lv_sub hl [] rfl)
    · have h := br_p c132 h
      refine lv_aload_n hx hb dX7_fits_135 rfl (lv_at hl 0 rfl) ?_
      refine lv_lload hx hb dX7_fits_136 (lv_at hl 3 rfl) ?_
      refine lv_iconst (v := 4) hx hb dX7_fits_138 rfl ?_
      obtain ⟨o9, hco9, h⟩ := bd_of h
      refine kV (rest := []) X dX7_fits_139 wd_3_163 mw_X7_isTo wd_3_165 wp_3_11 hP (k0 := 0) rfl rfl rfl hS (fun _ z => z) (c_X7_isTo hco9) rfl hl.1 rfl (Nat.le_of_ble_eq_true rfl) rfl rfl ⟨Nat.le_of_ble_eq_true rfl, Nat.le_of_ble_eq_true rfl⟩ (fun H locs hP _ _ hS => ?_)
      refine W.eq (g2 := F0 m 142 ls [.int (bI o9)]) rfl ?_
      refine rb_eq (tgt := 167) hx hb dX7_fits_142 rfl (fun c142 => ?_) (fun c142 => ?_)
      · have h := br_n c142 h
        exact b167    _ _ _ h hP hS (lv_sub hl [] rfl)
      · have h := br_p c142 h
        refine lv_lload hx hb dX7_fits_145 (lv_at hl 3 rfl) ?_
        refine lv_lconst (v := 0) hx hb dX7_fits_147 rfl ?_
        refine rl_eq (tgt := 167) hx hb dX7_fits_148 dX7_fits_149 rfl (fun c148 => ?_) (fun c148 => ?_)
        · have h := br_p c148 h
          exact b167    _ _ _ h hP hS (lv_sub hl [] rfl)
        · have h := br_n c148 h
          refine lv_lload_n hx hb dX7_fits_152 rfl (lv_at hl 2 rfl) ?_
          refine lv_lload hx hb dX7_fits_153 (lv_at hl 3 rfl) ?_
          obtain ⟨o10, hco10, h⟩ := bd_of h
          refine kS (rest := []) X dX7_fits_155 wd_3_167 mw_X7_stepsOver wd_3_168 hP hS (fun _ z => z) (c_X7_stepsOver hco10) rfl hl.1 rfl (Nat.le_of_ble_eq_true rfl) rfl rfl ⟨Nat.le_of_ble_eq_true rfl, Nat.le_of_ble_eq_true rfl⟩ (fun H locs hP _ _ hS => ?_)
          refine W.eq (g2 := F0 m 158 ls [.int o10]) rfl ?_
          refine lv_bipush (v := 6) hx hb dX7_fits_158 rfl ?_
          refine jx1 h (P := fun (v11 : Bool) => ∀ ls : Array Slot, lv_has ls 8 [] → W p l e rm_X7_fits s m args below meth c H locs 0 0 Q (F0 m 168 ls [.int (bI v11)])) ?_ ?_
          · intro v11 h ls hl
            exact ret h hP hS dX7_fits_168
          · intro J h
            refine lv_icmp_gt (tgt := 167) hx hb dX7_fits_160 rfl (fun c160 => ?_) (fun c160 => ?_)
            · refine lv_iconst (v := 0) hx hb dX7_fits_167 rfl ?_
              exact J _ (lt_ip c160 h) ls (lv_sub hl [] rfl)
            · refine lv_iconst (v := 1) hx hb dX7_fits_163 rfl ?_
              refine lv_goto (tgt := 168) hx hb dX7_fits_164 rfl ?_
              exact J _ (lt_in c160 h) ls (lv_sub hl [] rfl)
  have h := br_n c12_4 h
  by_cases c12_5 : (swK ((Int32.ofNat (p0).toNatClampNeg)).toNatClampNeg) = 5
  · have h := br_p c12_5 h
    refine lv_tableIn (off := 157) (tgt := 169) hx hb dX7_fits_12 (by rw [c12_5]; decide) (by rw [c12_5]; decide) (by rw [c12_5]; rfl) rfl ?_
    refine lv_aload_n hx hb dX7_fits_169 rfl (lv_at hl 0 rfl) ?_
    refine lv_lload_n hx hb dX7_fits_170 rfl (lv_at hl 2 rfl) ?_
    refine lv_iconst (v := 0) hx hb dX7_fits_171 rfl ?_
    obtain ⟨o12, hco12, h⟩ := bd_of h
    refine kV (rest := []) X dX7_fits_172 wd_3_163 mw_X7_isTo wd_3_165 wp_3_11 hP (k0 := 0) rfl rfl rfl hS (fun _ z => z) (c_X7_isTo hco12) rfl hl.1 rfl (Nat.le_of_ble_eq_true rfl) rfl rfl ⟨Nat.le_of_ble_eq_true rfl, Nat.le_of_ble_eq_true rfl⟩ (fun H locs hP _ _ hS => ?_)
    refine W.eq (g2 := F0 m 175 ls [.int (bI o12)]) rfl ?_
    exact ret h hP hS dX7_fits_175
  have h := br_n c12_5 h
  by_cases c12_6 : (swK ((Int32.ofNat (p0).toNatClampNeg)).toNatClampNeg) = 6
  · have h := br_p c12_6 h
    refine lv_tableIn (off := 164) (tgt := 176) hx hb dX7_fits_12 (by rw [c12_6]; decide) (by rw [c12_6]; decide) (by rw [c12_6]; rfl) rfl ?_
    refine lv_aload_n hx hb dX7_fits_176 rfl (lv_at hl 0 rfl) ?_
    refine lv_lload_n hx hb dX7_fits_177 rfl (lv_at hl 2 rfl) ?_
    refine lv_iconst (v := 2) hx hb dX7_fits_178 rfl ?_
    obtain ⟨o13, hco13, h⟩ := bd_of h
    refine kV (rest := []) X dX7_fits_179 wd_3_163 mw_X7_isTo wd_3_165 wp_3_11 hP (k0 := 0) rfl rfl rfl hS (fun _ z => z) (c_X7_isTo hco13) rfl hl.1 rfl (Nat.le_of_ble_eq_true rfl) rfl rfl ⟨Nat.le_of_ble_eq_true rfl, Nat.le_of_ble_eq_true rfl⟩ (fun H locs hP _ _ hS => ?_)
    refine W.eq (g2 := F0 m 182 ls [.int (bI o13)]) rfl ?_
    exact ret h hP hS dX7_fits_182
  have h := br_n c12_6 h
  by_cases c12_7 : (swK ((Int32.ofNat (p0).toNatClampNeg)).toNatClampNeg) = 7
  · have h := br_p c12_7 h
    refine lv_tableIn (off := 171) (tgt := 183) hx hb dX7_fits_12 (by rw [c12_7]; decide) (by rw [c12_7]; decide) (by rw [c12_7]; rfl) rfl ?_
    refine lv_aload_n hx hb dX7_fits_183 rfl (lv_at hl 0 rfl) ?_
    refine lv_lload_n hx hb dX7_fits_184 rfl (lv_at hl 2 rfl) ?_
    refine lv_iconst (v := 4) hx hb dX7_fits_185 rfl ?_
    obtain ⟨o14, hco14, h⟩ := bd_of h
    refine kV (rest := []) X dX7_fits_186 wd_3_163 mw_X7_isTo wd_3_165 wp_3_11 hP (k0 := 0) rfl rfl rfl hS (fun _ z => z) (c_X7_isTo hco14) rfl hl.1 rfl (Nat.le_of_ble_eq_true rfl) rfl rfl ⟨Nat.le_of_ble_eq_true rfl, Nat.le_of_ble_eq_true rfl⟩ (fun H locs hP _ _ hS => ?_)
    refine W.eq (g2 := F0 m 189 ls [.int (bI o14)]) rfl ?_
    refine rb_eq (tgt := 216) hx hb dX7_fits_189 rfl (fun c189 => ?_) (fun c189 => ?_)
    · have h := br_n c189 h
      exact b216    _ _ _ h hP hS (lv_sub hl [] rfl)
    · have h := br_p c189 h
      refine lv_aload_n hx hb dX7_fits_192 rfl (lv_at hl 0 rfl) ?_
      refine lv_lload hx hb dX7_fits_193 (lv_at hl 3 rfl) ?_
      refine lv_iconst (v := 4) hx hb dX7_fits_195 rfl ?_
      obtain ⟨o15, hco15, h⟩ := bd_of h
      refine kV (rest := []) X dX7_fits_196 wd_3_163 mw_X7_isTo wd_3_165 wp_3_11 hP (k0 := 0) rfl rfl rfl hS (fun _ z => z) (c_X7_isTo hco15) rfl hl.1 rfl (Nat.le_of_ble_eq_true rfl) rfl rfl ⟨Nat.le_of_ble_eq_true rfl, Nat.le_of_ble_eq_true rfl⟩ (fun H locs hP _ _ hS => ?_)
      refine W.eq (g2 := F0 m 199 ls [.int (bI o15)]) rfl ?_
      refine rb_eq (tgt := 216) hx hb dX7_fits_199 rfl (fun c199 => ?_) (fun c199 => ?_)
      · have h := br_n c199 h
        exact b216    _ _ _ h hP hS (lv_sub hl [] rfl)
      · have h := br_p c199 h
        refine lv_aload_n hx hb dX7_fits_202 rfl (lv_at hl 0 rfl) ?_
        refine lv_lload hx hb dX7_fits_203 (lv_at hl 4 rfl) ?_
        refine lv_iconst (v := 5) hx hb dX7_fits_205 rfl ?_
        obtain ⟨o16, hco16, h⟩ := bd_of h
        refine kV (rest := []) X dX7_fits_206 wd_3_163 mw_X7_isTo wd_3_165 wp_3_11 hP (k0 := 0) rfl rfl rfl hS (fun _ z => z) (c_X7_isTo hco16) rfl hl.1 rfl (Nat.le_of_ble_eq_true rfl) rfl rfl ⟨Nat.le_of_ble_eq_true rfl, Nat.le_of_ble_eq_true rfl⟩ (fun H locs hP _ _ hS => ?_)
        refine W.eq (g2 := F0 m 209 ls [.int (bI o16)]) rfl ?_
        refine jx1 h (P := fun (v17 : Bool) => ∀ ls : Array Slot, lv_has ls 8 [] → W p l e rm_X7_fits s m args below meth c H locs 0 0 Q (F0 m 217 ls [.int (bI v17)])) ?_ ?_
        · intro v17 h ls hl
          exact ret h hP hS dX7_fits_217
        · intro J h
          refine rb_eq (tgt := 216) hx hb dX7_fits_209 rfl (fun c209 => ?_) (fun c209 => ?_)
          · refine lv_iconst (v := 0) hx hb dX7_fits_216 rfl ?_
            exact J _ (lt_in c209 h) ls (lv_sub hl [] rfl)
          · refine lv_iconst (v := 1) hx hb dX7_fits_212 rfl ?_
            refine lv_goto (tgt := 217) hx hb dX7_fits_213 rfl ?_
            exact J _ (lt_ip c209 h) ls (lv_sub hl [] rfl)
  have h := br_n c12_7 h
  refine lv_tableOut (tgt := 218) hx hb dX7_fits_12 (by have := lv_neT (a := 1) c12_1 rfl; have := lv_neT (a := 2) c12_2 rfl; have := lv_neT (a := 3) c12_3 rfl; have := lv_neT (a := 4) c12_4 rfl; have := lv_neT (a := 5) c12_5 rfl; have := lv_neT (a := 6) c12_6 rfl; have := lv_neT (a := 7) c12_7 rfl; omega) rfl ?_
  refine lv_lload_n hx hb dX7_fits_218 rfl (lv_at hl 2 rfl) ?_
  refine lv_lconst (v := 0) hx hb dX7_fits_219 rfl ?_
  refine rl_le (tgt := 237) hx hb dX7_fits_220 dX7_fits_221 rfl (fun c220 => ?_) (fun c220 => ?_)
  · have h := br_p c220 h
    exact b237    _ _ _ h hP hS (lv_sub hl [] rfl)
  · have h := br_n c220 h
    refine lv_aload_n hx hb dX7_fits_224 rfl (lv_at hl 0 rfl) ?_
    refine lv_lload_n hx hb dX7_fits_225 rfl (lv_at hl 2 rfl) ?_
    refine lv_iconst (v := 5) hx hb dX7_fits_226 rfl ?_
    obtain ⟨o18, hco18, h⟩ := bd_of h
    refine kV (rest := []) X dX7_fits_227 wd_3_163 mw_X7_isTo wd_3_165 wp_3_11 hP (k0 := 0) rfl rfl rfl hS (fun _ z => z) (c_X7_isTo hco18) rfl hl.1 rfl (Nat.le_of_ble_eq_true rfl) rfl rfl ⟨Nat.le_of_ble_eq_true rfl, Nat.le_of_ble_eq_true rfl⟩ (fun H locs hP _ _ hS => ?_)
    refine W.eq (g2 := F0 m 230 ls [.int (bI o18)]) rfl ?_
    refine jx1 h (P := fun (v19 : Bool) => ∀ ls : Array Slot, lv_has ls 8 [] → W p l e rm_X7_fits s m args below meth c H locs 0 0 Q (F0 m 238 ls [.int (bI v19)])) ?_ ?_
    · intro v19 h ls hl
      exact ret h hP hS dX7_fits_238
    · intro J h
      refine rb_eq (tgt := 237) hx hb dX7_fits_230 rfl (fun c230 => ?_) (fun c230 => ?_)
      · refine lv_iconst (v := 0) hx hb dX7_fits_237 rfl ?_
        exact J _ (lt_in c230 h) ls (lv_sub hl [] rfl)
      · refine lv_iconst (v := 1) hx hb dX7_fits_233 rfl ?_
        refine lv_goto (tgt := 238) hx hb dX7_fits_234 rfl ?_
        exact J _ (lt_ip c230 h) ls (lv_sub hl [] rfl)
abbrev rm_J9_floorDiv_f86c9 : Room := { frames := 0, cells := 0, slots := 0, locals := 0 }
set_option maxRecDepth 100000 in
set_option maxHeartbeats 4000000 in
theorem c_J9_floorDiv_f86c9 {g : gT} {l : Launch} {A : Nat → Prop} {w : va_W} {p0 : Int64} {p1 : Int64} {o : Int64} (h : f_J9_floorDiv_f86c9 p0 p1  = some o) : Std g l yJ9_floorDiv_f86c9 (.code yJ9_floorDiv_f86c9 cJ9_floorDiv_f86c9 6 (some .long) :: gw) rm_J9_floorDiv_f86c9 A [.long p0, .long p1] w w (some (.long o)) := by
  refine std_l (own := RJ9) (by decide +kernel) rfl (Nat.le_of_ble_eq_true rfl) ?_
  intro p e s m args below meth c Q X ret H locs hP hS ls hl
  have hx := X.1
  have hb := X.2.1
  have hl : lv_has ls 6 [(0, .long p0), (2, .long p1)] := hl
  have ret : ∀ {H : Heap} {locs : List Loc} {pc : Nat} {ls : Array Slot} {v : Int64} , some (v) = some o → WP g A w H → va_S A s.heap H locs → decode cJ9_floorDiv_f86c9 pc = .ok (.lreturn, 1) → W p l e rm_J9_floorDiv_f86c9 s m args below meth c H locs 0 0 Q (F0 m pc ls [.long v]) := by
    intro H locs pc ls v h hP hS hd
    cases h
    exact ret hP hS hd
  have b27 : ∀ (x4 : Int64) (H : Heap) (locs : List Loc) (ls : Array Slot), f_J9_floorDiv_f86c9_b27    x4 = some o → WP g A w H → va_S A s.heap H locs → lv_has ls 6 [(4, .long x4)] → W p l e rm_J9_floorDiv_f86c9 s m args below meth c H locs 0 0 Q (F0 m 27 ls []) := by
    intro  x4 H locs ls h hP hS hl
    unfold f_J9_floorDiv_f86c9_b27 at h
    refine lv_lload hx hb dJ9_floorDiv_f86c9_27 (lv_at hl 0 rfl) ?_
    exact ret h hP hS dJ9_floorDiv_f86c9_29
  unfold f_J9_floorDiv_f86c9 at h
  refine lv_lload_n hx hb dJ9_floorDiv_f86c9_0 rfl (lv_at hl 0 rfl) ?_
  refine lv_lload_n hx hb dJ9_floorDiv_f86c9_1 rfl (lv_at hl 1 rfl) ?_
  obtain ⟨cz2, h⟩ := gz_of h
  refine lv_ldiv hx hb dJ9_floorDiv_f86c9_2 cz2 ?_
  refine lv_topl (fun v1 ev1 => ?_)
  have h := lt_at ev1 h
  refine lv_lstore (lv' := [(4, .long v1), (0, .long p0), (2, .long p1)]) hx hb dJ9_floorDiv_f86c9_3 hl (by decide) rfl (fun ls hl => ?_)
  refine lv_lload_n hx hb dJ9_floorDiv_f86c9_5 rfl (lv_at hl 1 rfl) ?_
  refine lv_lload_n hx hb dJ9_floorDiv_f86c9_6 rfl (lv_at hl 2 rfl) ?_
  refine lv_lxor hx hb dJ9_floorDiv_f86c9_7 ?_
  refine lv_lconst (v := 0) hx hb dJ9_floorDiv_f86c9_8 rfl ?_
  refine rl_ge (tgt := 27) hx hb dJ9_floorDiv_f86c9_9 dJ9_floorDiv_f86c9_10 rfl (fun c9 => ?_) (fun c9 => ?_)
  · have h := br_p c9 h
    exact b27   v1 _ _ _ h hP hS (lv_sub hl [0] rfl)
  · have h := br_n c9 h
    refine lv_lload hx hb dJ9_floorDiv_f86c9_13 (lv_at hl 0 rfl) ?_
    refine lv_lload_n hx hb dJ9_floorDiv_f86c9_15 rfl (lv_at hl 2 rfl) ?_
    refine lv_lmul hx hb dJ9_floorDiv_f86c9_16 ?_
    refine lv_lload_n hx hb dJ9_floorDiv_f86c9_17 rfl (lv_at hl 1 rfl) ?_
    refine rl_eq (tgt := 27) hx hb dJ9_floorDiv_f86c9_18 dJ9_floorDiv_f86c9_19 rfl (fun c18 => ?_) (fun c18 => ?_)
    · have h := br_p c18 h
      exact b27   v1 _ _ _ h hP hS (lv_sub hl [0] rfl)
    · have h := br_n c18 h
      refine lv_lload hx hb dJ9_floorDiv_f86c9_22 (lv_at hl 0 rfl) ?_
      refine lv_lconst (v := 1) hx hb dJ9_floorDiv_f86c9_24 rfl ?_
      refine lv_lsub hx hb dJ9_floorDiv_f86c9_25 ?_
      exact ret h hP hS dJ9_floorDiv_f86c9_26
abbrev rm_X7_nearest : Room := { frames := 1, cells := 0, slots := 0, locals := 25 }
set_option maxRecDepth 100000 in
set_option maxHeartbeats 4000000 in
theorem c_X7_nearest {g : gT} {l : Launch} {A : Nat → Prop} {w : va_W} {p0 : Int64} {p1 : Int64} {o : Int32} (h : f_X7_nearest p0 p1  = some o) : Std g l yX7_nearest (.code yX7_nearest cX7_nearest 4 (some .int) :: gw) rm_X7_nearest A [.long p0, .long p1] w w (some (.int o)) := by
  refine std_i (own := RX7) (by decide +kernel) rfl (Nat.le_of_ble_eq_true rfl) ?_
  intro p e s m args below meth c Q X ret H locs hP hS ls hl
  have hx := X.1
  have hb := X.2.1
  have hl : lv_has ls 4 [(0, .long p0), (2, .long p1)] := hl
  have ret : ∀ {H : Heap} {locs : List Loc} {pc : Nat} {ls : Array Slot} {v : Int32} , some (v) = some o → WP g A w H → va_S A s.heap H locs → decode cX7_nearest pc = .ok (.ireturn, 1) → W p l e rm_X7_nearest s m args below meth c H locs 0 0 Q (F0 m pc ls [.int v]) := by
    intro H locs pc ls v h hP hS hd
    cases h
    exact ret hP hS hd
  unfold f_X7_nearest at h
  refine lv_lload_n hx hb dX7_nearest_0 rfl (lv_at hl 1 rfl) ?_
  refine lv_lconst (v := 0) hx hb dX7_nearest_1 rfl ?_
  refine rl_le (tgt := 25) hx hb dX7_nearest_2 dX7_nearest_3 rfl (fun c2 => ?_) (fun c2 => ?_)
  · have h := br_p c2 h
    refine lv_iconst (v := 0) hx hb dX7_nearest_25 rfl ?_
    exact ret h hP hS dX7_nearest_26
  · have h := br_n c2 h
    refine lv_ldc2 (v := 2) hx hb X.2.2.2.1 (X.2.2.2.2.1 _ wd_3_184) dX7_nearest_6 ?_
    refine lv_lload_n hx hb dX7_nearest_9 rfl (lv_at hl 0 rfl) ?_
    refine lv_lmul hx hb dX7_nearest_10 ?_
    refine lv_lload_n hx hb dX7_nearest_11 rfl (lv_at hl 1 rfl) ?_
    refine lv_ladd hx hb dX7_nearest_12 ?_
    refine lv_ldc2 (v := 2) hx hb X.2.2.2.1 (X.2.2.2.2.1 _ wd_3_184) dX7_nearest_13 ?_
    refine lv_lload_n hx hb dX7_nearest_16 rfl (lv_at hl 1 rfl) ?_
    refine lv_lmul hx hb dX7_nearest_17 ?_
    obtain ⟨o1, hco1, h⟩ := bd_of h
    refine kS (rest := []) X dX7_nearest_18 wd_3_185 mw_J9_floorDiv_f86c9 wd_3_186 hP hS (fun _ z => z) (c_J9_floorDiv_f86c9 hco1) rfl hl.1 rfl (Nat.le_of_ble_eq_true rfl) rfl rfl ⟨Nat.le_of_ble_eq_true rfl, Nat.le_of_ble_eq_true rfl⟩ (fun H locs hP _ _ hS => ?_)
    refine W.eq (g2 := F0 m 21 ls [.long o1]) rfl ?_
    refine lv_l2i hx hb dX7_nearest_21 rfl ?_
    refine lv_goto (tgt := 26) hx hb dX7_nearest_22 rfl ?_
    exact ret h hP hS dX7_nearest_26
abbrev rm_X7_put : Room := { frames := 0, cells := 0, slots := 0, locals := 0 }
set_option maxRecDepth 100000 in
set_option maxHeartbeats 4000000 in
theorem c_X7_put {g : gT} {l : Launch} {A : Nat → Prop} {a0 a1 a2 a3 a4 a5 a6 : Nat} {r_x : Int64} {r_y : Int64} {r_z : Int64} {r_upBits : Int32} {r_steps : Int32} {r_first : Int64} {r_second : Int64} {u_width : Int32} {u_guard : Int32} {u_bits : Int32} {u_stages : Int32} {u_places : Int32} {u_near : Bool} {u_quarter : Int64} {u_eighth : Int64} {u_ln : Int64} {u_shifts : Nat → Int32} {u_angles : Nat → Int64} {u_gains : Nat → Int64} {u_undos : Nat → Int64} {u_digits : Nat → Int32} {p0 : Int64} {p1 : Int64} {p2 : Int64} {o : Int64 × Int64 × Int64} (h : f_X7_put p0 p1 p2 r_x r_y r_z = some o) : Std g l yX7_put (.code yX7_put cX7_put 7 none :: gw) rm_X7_put A [.ref a0, .long p0, .long p1, .long p2] (wTurner g a0 a1 a2 a3 a4 a5 a6 r_x r_y r_z r_upBits r_steps r_first r_second u_width u_guard u_bits u_stages u_places u_near u_quarter u_eighth u_ln u_shifts u_angles u_gains u_undos u_digits) (wTurner g a0 a1 a2 a3 a4 a5 a6 o.1 o.2.1 o.2.2 r_upBits r_steps r_first r_second u_width u_guard u_bits u_stages u_places u_near u_quarter u_eighth u_ln u_shifts u_angles u_gains u_undos u_digits) none := by
  refine std_v (own := RX7) (by decide +kernel) rfl (Nat.le_of_ble_eq_true rfl) ?_
  intro p e s m args below meth c Q X ret H locs hP hS ls hl
  have hx := X.1
  have hb := X.2.1
  have hl : lv_has ls 7 [(0, .ref a0), (1, .long p0), (3, .long p1), (5, .long p2)] := hl
  have ret : ∀ {H : Heap} {locs : List Loc} {pc : Nat} {ls : Array Slot} {r_x : Int64} {r_y : Int64} {r_z : Int64}, some (r_x, r_y, r_z) = some o → WP g A (wTurner g a0 a1 a2 a3 a4 a5 a6 r_x r_y r_z r_upBits r_steps r_first r_second u_width u_guard u_bits u_stages u_places u_near u_quarter u_eighth u_ln u_shifts u_angles u_gains u_undos u_digits) H → va_S A s.heap H locs → decode cX7_put pc = .ok (.return_, 1) → W p l e rm_X7_put s m args below meth c H locs 0 0 Q (F0 m pc ls []) := by
    intro H locs pc ls r_x r_y r_z h hP hS hd
    cases h
    exact ret hP hS hd
  unfold f_X7_put at h
  refine lv_aload_n hx hb dX7_put_0 rfl (lv_at hl 0 rfl) ?_
  refine lv_lload_n hx hb dX7_put_1 rfl (lv_at hl 1 rfl) ?_
  refine pf_X7_130_Turner_0 (v0 := p0) X hP hS dX7_put_2 (fun H locs hP hS => ?_)
  refine lv_aload_n hx hb dX7_put_5 rfl (lv_at hl 0 rfl) ?_
  refine lv_lload_n hx hb dX7_put_6 rfl (lv_at hl 2 rfl) ?_
  refine pf_X7_133_Turner_0 (v0 := p1) X hP hS dX7_put_7 (fun H locs hP hS => ?_)
  refine lv_aload_n hx hb dX7_put_10 rfl (lv_at hl 0 rfl) ?_
  refine lv_lload hx hb dX7_put_11 (lv_at hl 3 rfl) ?_
  refine pf_X7_136_Turner_0 (v0 := p2) X hP hS dX7_put_13 (fun H locs hP hS => ?_)
  exact ret h hP hS dX7_put_16
abbrev rm_X7_beginNear : Room := { frames := 2, cells := 0, slots := 0, locals := 48 }
set_option maxRecDepth 100000 in
set_option maxHeartbeats 4000000 in
theorem c_X7_beginNear {g : gT} {l : Launch} {A : Nat → Prop} {a0 a1 a2 a3 a4 a5 a6 : Nat} {r_x : Int64} {r_y : Int64} {r_z : Int64} {r_upBits : Int32} {r_steps : Int32} {r_first : Int64} {r_second : Int64} {u_width : Int32} {u_guard : Int32} {u_bits : Int32} {u_stages : Int32} {u_places : Int32} {u_near : Bool} {u_quarter : Int64} {u_eighth : Int64} {u_ln : Int64} {u_shifts : Nat → Int32} {u_angles : Nat → Int64} {u_gains : Nat → Int64} {u_undos : Nat → Int64} {u_digits : Nat → Int32} {p0 : Int64} {p1 : Int64} {p2 : Int64} {o : Int64 × Int64 × Int64 × Int32} (h : f_X7_beginNear p0 p1 p2 r_x r_y r_z r_steps = some o) : Std g l yX7_beginNear (.code yX7_beginNear cX7_beginNear 7 none :: gw) rm_X7_beginNear A [.ref a0, .long p0, .long p1, .long p2] (wTurner g a0 a1 a2 a3 a4 a5 a6 r_x r_y r_z r_upBits r_steps r_first r_second u_width u_guard u_bits u_stages u_places u_near u_quarter u_eighth u_ln u_shifts u_angles u_gains u_undos u_digits) (wTurner g a0 a1 a2 a3 a4 a5 a6 o.1 o.2.1 o.2.2.1 r_upBits o.2.2.2 r_first r_second u_width u_guard u_bits u_stages u_places u_near u_quarter u_eighth u_ln u_shifts u_angles u_gains u_undos u_digits) none := by
  refine std_v (own := RX7) (by decide +kernel) rfl (Nat.le_of_ble_eq_true rfl) ?_
  intro p e s m args below meth c Q X ret H locs hP hS ls hl
  have hx := X.1
  have hb := X.2.1
  have hl : lv_has ls 7 [(0, .ref a0), (1, .long p0), (3, .long p1), (5, .long p2)] := hl
  have ret : ∀ {H : Heap} {locs : List Loc} {pc : Nat} {ls : Array Slot} {r_x : Int64} {r_y : Int64} {r_z : Int64} {r_steps : Int32}, some (r_x, r_y, r_z, r_steps) = some o → WP g A (wTurner g a0 a1 a2 a3 a4 a5 a6 r_x r_y r_z r_upBits r_steps r_first r_second u_width u_guard u_bits u_stages u_places u_near u_quarter u_eighth u_ln u_shifts u_angles u_gains u_undos u_digits) H → va_S A s.heap H locs → decode cX7_beginNear pc = .ok (.return_, 1) → W p l e rm_X7_beginNear s m args below meth c H locs 0 0 Q (F0 m pc ls []) := by
    intro H locs pc ls r_x r_y r_z r_steps h hP hS hd
    cases h
    exact ret hP hS hd
  unfold f_X7_beginNear at h
  refine lv_aload_n hx hb dX7_beginNear_0 rfl (lv_at hl 0 rfl) ?_
  refine lv_lload_n hx hb dX7_beginNear_1 rfl (lv_at hl 2 rfl) ?_
  refine lv_lload hx hb dX7_beginNear_2 (lv_at hl 3 rfl) ?_
  obtain ⟨o1, hco1, h⟩ := bd_of h
  refine kS (rest := [.ref a0]) X dX7_beginNear_4 wd_3_181 mw_X7_nearest wd_3_182 hP hS (fun _ z => z) (c_X7_nearest hco1) rfl hl.1 rfl (Nat.le_of_ble_eq_true rfl) rfl rfl ⟨Nat.le_of_ble_eq_true rfl, Nat.le_of_ble_eq_true rfl⟩ (fun H locs hP _ _ hS => ?_)
  refine W.eq (g2 := F0 m 7 ls [.int o1, .ref a0]) rfl ?_
  refine pf_X7_86_Turner_0 (v0 := o1) X hP hS dX7_beginNear_7 (fun H locs hP hS => ?_)
  refine lv_aload_n hx hb dX7_beginNear_10 rfl (lv_at hl 0 rfl) ?_
  refine lv_lload_n hx hb dX7_beginNear_11 rfl (lv_at hl 1 rfl) ?_
  refine lv_lconst (v := 0) hx hb dX7_beginNear_12 rfl ?_
  refine lv_lload_n hx hb dX7_beginNear_13 rfl (lv_at hl 2 rfl) ?_
  refine lv_aload_n hx hb dX7_beginNear_14 rfl (lv_at hl 0 rfl) ?_
  refine gf_X7_86_Turner_0 X hP dX7_beginNear_15 ?_
  refine lv_i2l hx hb dX7_beginNear_18 rfl ?_
  refine lv_lload hx hb dX7_beginNear_19 (lv_at hl 3 rfl) ?_
  refine lv_lmul hx hb dX7_beginNear_21 ?_
  refine lv_lsub hx hb dX7_beginNear_22 ?_
  obtain ⟨o2, hco2, h⟩ := bd_of h
  refine kV (rest := []) X dX7_beginNear_23 wd_3_188 mw_X7_put wd_3_190 wp_3_14 hP (k0 := 0) rfl rfl rfl hS (fun _ z => z) (c_X7_put hco2) rfl hl.1 rfl (Nat.le_of_ble_eq_true rfl) rfl rfl ⟨Nat.le_of_ble_eq_true rfl, Nat.le_of_ble_eq_true rfl⟩ (fun H locs hP _ _ hS => ?_)
  refine W.eq (g2 := F0 m 26 ls []) rfl ?_
  exact ret h hP hS dX7_beginNear_26
