/-! ===== told: returns or throws ===== -/
abbrev rm_X10_told : Room := { frames := 6, cells := 1, slots := 6, locals := 90 }
def PstX (g : gT) (A : Nat → Prop) (w : va_W) (av : List Value) : Array Value → State → Prop := va_Pc av (fun U => WP g A w U.heap ∧ GG g A U U.heap ∧ ST g U U.heap)
theorem PstX.blind {g : gT} {A : Nat → Prop} {w : va_W} {av : List Value} : FrameBlind (PstX g A w av) := fun _ _ f mk h => ⟨h.1, h.2.1, h.2.2.1.blind f mk _, h.2.2.2.blind f mk _⟩
def QtX (g : gT) (A : Nat → Prop) (w : va_W) (o : Option Int32) : Array Value → State → Outcome → State → Prop := fun _ st oc t => ∃ v : Int32, o = some v ∧ oc = .returned (some (.int v)) ∧ WP g A w t.heap ∧ va_F A st t
def XtX (g : gT) (A : Nat → Prop) (w : va_W) (o : Option Int32) : String → State → State → Prop := fun E st t => E = nxE ∧ o = none ∧ WP g A w t.heap ∧ va_F A st t
theorem WP.grown {g : gT} {A : Nat → Prop} {w : va_W} {H H1 : Heap} (h : WP g A w H) (hk : ∀ q : Nat, q < H.size → H1[q]? = H[q]?) : WP g A w H1 := h.stay (A1 := fun _ => False) (fun q hq _ => hk q hq) (fun _ _ h => h)
section Told
variable {g : gT} {l : Launch} {A : Nat → Prop} {av : List Value} {w : va_W} {o : Option Int32}
theorem std_told (hl0 : l.stackTraces = false) (hlen : (lg_sl av).length ≤ 3)
    (body : ∀ p e s m args below meth c Q, CX g A p s m args c cX10_told 3 RX10 → (∀ {H : Heap} {locs : List Loc} {pc : Nat} {ls : Array Slot} {v : Int32}, some (some v) = some o → WP g A w H → va_S A s.heap H locs → decode cX10_told pc = .ok (.ireturn, 1) → W p l e rm_X10_told s m args below meth c H locs 0 0 Q (F0 m pc ls [.int v])) → (∀ {H : Heap} {locs : List Loc} {ls : Array Slot}, some none = some o → WP g A w H → va_S A s.heap H locs → lv_has ls 3 [] → W p l e rm_X10_told s m args below meth c H locs 0 0 Q (F0 m 18 ls [])) → ∀ (H : Heap) (locs : List Loc), WP g A w H → va_S A s.heap H locs → ∀ ls : Array Slot, lv_has ls 3 (lv_args 0 av) →
      W p l e rm_X10_told s m args below meth c H locs 0 0 Q (F0 m 0 ls [])) : vx_Met l yX10_told (.code yX10_told cX10_told 3 (some .int) :: gw) rm_X10_told (PstX g A w av) (QtX g A w o) (XtX g A w o) 1 6 A := by
  refine vx_ofW (cc := cX10_told) (maxL := 3) (ret := some .int) (by decide) rfl ?_
  intro p e s m args below meth c s₁ B hml hex hv
  obtain ⟨rfl, hP, hG, hST⟩ := hv
  have hts := atoms_spec (ws := .code yX10_told cX10_told 3 (some .int) :: gw) B.pre
  have hown : s.vm.findClass RX10 = some m.cls := findClass_of_methodNamed B.named
  rw [lg_entry_eq]
  have X : CX g A p s m av.toArray c cX10_told 3 RX10 := ⟨B.exec, B.bytes, hml, hown, fun w h => hts w (List.mem_cons_of_mem _ h), hG⟩
  have hlk : meth.locks = false := B.notSynchronized
  refine body p e s m av.toArray below meth c _ X ?_ ?_ _ _ hP va_S.rf _ (lv_entry av hlen)
  · intro H locs pc ls v h hP hS hd
    refine W.widen (k := 1) (n := 6) (Nat.zero_le _) (Nat.zero_le _) (vx_ret ?_)
    exact W.iret X.1 X.2.1 B.returns (fun t ht hW => ⟨v, (Option.some.inj h).symm, rfl, by rw [ht]; exact hP, hS.F ht⟩) hS.2.2 hd hlk
  · intro H locs ls h hP hS hl
    exact nx_throw (g := g) (A := A) X.1 X.2.1 hl0 hown X.2.2.2.2.1 (sfX X).2.2.2.2.2.2.2.2.2.2.2.2.2.2.2.2 hST hG.1 hS (hl.1.trans hml.symm) dX10_told_18 dX10_told_21 dX10_told_22 dX10_told_24 dX10_told_27 (fun x hx => (hex x hx).elim) (Nat.le_of_ble_eq_true rfl) (Nat.le_of_ble_eq_true rfl) (Nat.le_of_ble_eq_true rfl) (Nat.le_of_ble_eq_true rfl) hlk
      (fun t _ hz hk => ⟨rfl, (Option.some.inj h).symm, hP.grown hk, Nat.le_trans hS.1 hz, fun q h1 h2 => (hk q (Nat.lt_of_lt_of_le h1 hS.1)).trans (hS.2.1 q h1 h2)⟩) hS.2.2 (Nat.le_refl _) (Nat.le_refl _)
end Told
set_option maxRecDepth 100000 in
set_option maxHeartbeats 4000000 in
theorem c_X10_told {g : gT} {l : Launch} {A : Nat → Prop} {q : Nat → Nat} {z_hasUnit : Bool} {z_hasImage : Bool} {t_length : Int32} {t_bytes : Nat → Int32} {x_width : Int32} {x_guard : Int32} {x_stages : Int32} {x_fold : Int32} {x_pipe : Bool} {x_near : Bool} {s_at : Int32} {o_lines : Int32} {n_at : Int32} {o_kinds : Nat → Int32} {o_operands : Nat → Int32} {o_ties : Nat → Int32} {u_width : Int32} {u_guard : Int32} {u_bits : Int32} {u_stages : Int32} {u_places : Int32} {u_near : Bool} {u_quarter : Int64} {u_eighth : Int64} {u_ln : Int64} {u_shifts : Nat → Int32} {u_angles : Nat → Int64} {u_gains : Nat → Int64} {u_undos : Nat → Int64} {u_digits : Nat → Int32} {r_x : Int64} {r_y : Int64} {r_z : Int64} {r_upBits : Int32} {r_steps : Int32} {r_first : Int64} {r_second : Int64} {v_width : Int32} {v_guard : Int32} {v_bits : Int32} {v_stages : Int32} {v_places : Int32} {v_near : Bool} {v_quarter : Int64} {v_eighth : Int64} {v_ln : Int64} {v_shifts : Nat → Int32} {v_angles : Nat → Int64} {v_gains : Nat → Int64} {v_undos : Nat → Int64} {v_digits : Nat → Int32} {k_x : Int64} {k_y : Int64} {k_z : Int64} {k_upBits : Int32} {k_steps : Int32} {k_first : Int64} {k_second : Int64} {b_jobs : Int32} {b_over : Int32} {b_clocks : Int32} {b_held : Bool} {b_kinds : Nat → Int32} {b_operands : Nat → Int32} {b_ties : Nat → Int32} {b_states : Nat → Int32} {b_gone : Nat → Int32} {b_toldIn : Nat → Int32} {b_broughtIn : Nat → Int32} {b_doneIn : Nat → Int32} {c_jobs : Int32} {c_over : Int32} {c_clocks : Int32} {c_held : Bool} {c_kinds : Nat → Int32} {c_operands : Nat → Int32} {c_ties : Nat → Int32} {c_states : Nat → Int32} {c_gone : Nat → Int32} {c_toldIn : Nat → Int32} {c_broughtIn : Nat → Int32} {c_doneIn : Nat → Int32} {d_jobs : Int32} {d_over : Int32} {d_clocks : Int32} {d_held : Bool} {d_kinds : Nat → Int32} {d_operands : Nat → Int32} {d_ties : Nat → Int32} {d_states : Nat → Int32} {d_gone : Nat → Int32} {d_toldIn : Nat → Int32} {d_broughtIn : Nat → Int32} {d_doneIn : Nat → Int32} {z_refusals : Nat → Int32} {p0 : Int32} {p1 : Int32} {o : (Option Int32)} (h : f_X10_told p0 p1 z_hasUnit b_jobs b_kinds b_operands b_states b_gone b_broughtIn b_doneIn = some o) (hl0 : l.stackTraces = false) : vx_Met l yX10_told (.code yX10_told cX10_told 3 (some .int) :: gw) rm_X10_told (PstX g A (wX g q z_hasUnit z_hasImage t_length t_bytes x_width x_guard x_stages x_fold x_pipe x_near s_at o_lines n_at o_kinds o_operands o_ties u_width u_guard u_bits u_stages u_places u_near u_quarter u_eighth u_ln u_shifts u_angles u_gains u_undos u_digits r_x r_y r_z r_upBits r_steps r_first r_second v_width v_guard v_bits v_stages v_places v_near v_quarter v_eighth v_ln v_shifts v_angles v_gains v_undos v_digits k_x k_y k_z k_upBits k_steps k_first k_second b_jobs b_over b_clocks b_held b_kinds b_operands b_ties b_states b_gone b_toldIn b_broughtIn b_doneIn c_jobs c_over c_clocks c_held c_kinds c_operands c_ties c_states c_gone c_toldIn c_broughtIn c_doneIn d_jobs d_over d_clocks d_held d_kinds d_operands d_ties d_states d_gone d_toldIn d_broughtIn d_doneIn z_refusals) [.ref (q 0), .int p0, .int p1]) (QtX g A (wX g q z_hasUnit z_hasImage t_length t_bytes x_width x_guard x_stages x_fold x_pipe x_near s_at o_lines n_at o_kinds o_operands o_ties u_width u_guard u_bits u_stages u_places u_near u_quarter u_eighth u_ln u_shifts u_angles u_gains u_undos u_digits r_x r_y r_z r_upBits r_steps r_first r_second v_width v_guard v_bits v_stages v_places v_near v_quarter v_eighth v_ln v_shifts v_angles v_gains v_undos v_digits k_x k_y k_z k_upBits k_steps k_first k_second b_jobs b_over b_clocks b_held b_kinds b_operands b_ties b_states b_gone b_toldIn b_broughtIn b_doneIn c_jobs c_over c_clocks c_held c_kinds c_operands c_ties c_states c_gone c_toldIn c_broughtIn c_doneIn d_jobs d_over d_clocks d_held d_kinds d_operands d_ties d_states d_gone d_toldIn d_broughtIn d_doneIn z_refusals) o) (XtX g A (wX g q z_hasUnit z_hasImage t_length t_bytes x_width x_guard x_stages x_fold x_pipe x_near s_at o_lines n_at o_kinds o_operands o_ties u_width u_guard u_bits u_stages u_places u_near u_quarter u_eighth u_ln u_shifts u_angles u_gains u_undos u_digits r_x r_y r_z r_upBits r_steps r_first r_second v_width v_guard v_bits v_stages v_places v_near v_quarter v_eighth v_ln v_shifts v_angles v_gains v_undos v_digits k_x k_y k_z k_upBits k_steps k_first k_second b_jobs b_over b_clocks b_held b_kinds b_operands b_ties b_states b_gone b_toldIn b_broughtIn b_doneIn c_jobs c_over c_clocks c_held c_kinds c_operands c_ties c_states c_gone c_toldIn c_broughtIn c_doneIn d_jobs d_over d_clocks d_held d_kinds d_operands d_ties d_states d_gone d_toldIn d_broughtIn d_doneIn z_refusals) o) 1 6 A := by
  refine std_told hl0 (Nat.le_of_ble_eq_true rfl) ?_
  intro p e s m args below meth c Q X ret throw H locs hP hS ls hl
  have hx := X.1
  have hb := X.2.1
  have hl : lv_has ls 3 [(0, .ref (q 0)), (1, .int p0), (2, .int p1)] := hl
  have b18 : ∀  (H : Heap) (locs : List Loc) (ls : Array Slot), f_X10_told_b18  z_hasUnit b_jobs b_kinds b_operands b_states b_gone b_broughtIn b_doneIn   = some o → WP g A (wX g q z_hasUnit z_hasImage t_length t_bytes x_width x_guard x_stages x_fold x_pipe x_near s_at o_lines n_at o_kinds o_operands o_ties u_width u_guard u_bits u_stages u_places u_near u_quarter u_eighth u_ln u_shifts u_angles u_gains u_undos u_digits r_x r_y r_z r_upBits r_steps r_first r_second v_width v_guard v_bits v_stages v_places v_near v_quarter v_eighth v_ln v_shifts v_angles v_gains v_undos v_digits k_x k_y k_z k_upBits k_steps k_first k_second b_jobs b_over b_clocks b_held b_kinds b_operands b_ties b_states b_gone b_toldIn b_broughtIn b_doneIn c_jobs c_over c_clocks c_held c_kinds c_operands c_ties c_states c_gone c_toldIn c_broughtIn c_doneIn d_jobs d_over d_clocks d_held d_kinds d_operands d_ties d_states d_gone d_toldIn d_broughtIn d_doneIn z_refusals) H → va_S A s.heap H locs → lv_has ls 3 [] → W p l e rm_X10_told s m args below meth c H locs 0 0 Q (F0 m 18 ls []) := by
    intro   H locs ls h hP hS hl
    unfold f_X10_told_b18 at h
    exact throw h hP hS hl
  have b160 : ∀ (x1 : Int32) (x2 : Int32) (H : Heap) (locs : List Loc) (ls : Array Slot), f_X10_told_b160  z_hasUnit b_jobs b_kinds b_operands b_states b_gone b_broughtIn b_doneIn  x1 x2 = some o → WP g A (wX g q z_hasUnit z_hasImage t_length t_bytes x_width x_guard x_stages x_fold x_pipe x_near s_at o_lines n_at o_kinds o_operands o_ties u_width u_guard u_bits u_stages u_places u_near u_quarter u_eighth u_ln u_shifts u_angles u_gains u_undos u_digits r_x r_y r_z r_upBits r_steps r_first r_second v_width v_guard v_bits v_stages v_places v_near v_quarter v_eighth v_ln v_shifts v_angles v_gains v_undos v_digits k_x k_y k_z k_upBits k_steps k_first k_second b_jobs b_over b_clocks b_held b_kinds b_operands b_ties b_states b_gone b_toldIn b_broughtIn b_doneIn c_jobs c_over c_clocks c_held c_kinds c_operands c_ties c_states c_gone c_toldIn c_broughtIn c_doneIn d_jobs d_over d_clocks d_held d_kinds d_operands d_ties d_states d_gone d_toldIn d_broughtIn d_doneIn z_refusals) H → va_S A s.heap H locs → lv_has ls 3 [(0, .ref (q 0)), (1, .int x1), (2, .int x2)] → W p l e rm_X10_told s m args below meth c H locs 0 0 Q (F0 m 160 ls []) := by
    intro  x1 x2 H locs ls h hP hS hl
    unfold f_X10_told_b160 at h
    refine lv_aload_n hx hb dX10_told_160 rfl (lv_at hl 0 rfl) ?_
    refine gf_X10_60_X_0 X hP dX10_told_161 ?_
    refine gf_X10_284_X_24 X hP dX10_told_164 ?_
    refine lv_iload_n hx hb dX10_told_167 rfl (lv_at hl 1 rfl) ?_
    refine lv_iconst (v := 3) hx hb dX10_told_168 rfl ?_
    refine lv_imul hx hb dX10_told_169 ?_
    refine lv_iload_n hx hb dX10_told_170 rfl (lv_at hl 2 rfl) ?_
    refine lv_iadd hx hb dX10_told_171 ?_
    refine lv_iconst (v := 1) hx hb dX10_told_172 rfl ?_
    refine lv_isub hx hb dX10_told_173 ?_
    obtain ⟨hi174, h⟩ := gv_of h
    refine al_X_26 X hP hi174 dX10_told_174 ?_
    exact ret h hP hS dX10_told_175
  unfold f_X10_told at h
  refine lv_aload_n hx hb dX10_told_0 rfl (lv_at hl 0 rfl) ?_
  refine lv_iload_n hx hb dX10_told_1 rfl (lv_at hl 1 rfl) ?_
  obtain ⟨o1, hco1, h⟩ := bd_of h
  refine kV (rest := []) X dX10_told_2 wd_4_64 mw_X10_isJob wd_4_66 wp_5_3 hP (k0 := 0) rfl rfl rfl hS (fun _ z => z) (c_X10_isJob hco1) rfl hl.1 rfl (Nat.le_of_ble_eq_true rfl) rfl rfl ⟨Nat.le_of_ble_eq_true rfl, Nat.le_of_ble_eq_true rfl⟩ (fun H locs hP _ _ hS => ?_)
  refine W.eq (g2 := F0 m 5 ls [.int (bI o1)]) rfl ?_
  refine rb_eq (tgt := 18) hx hb dX10_told_5 rfl (fun c5 => ?_) (fun c5 => ?_)
  · have h := br_n c5 h
    exact b18    _ _ _ h hP hS (lv_sub hl [] rfl)
  · have h := br_p c5 h
    refine lv_iload_n hx hb dX10_told_8 rfl (lv_at hl 2 rfl) ?_
    refine lv_if_lt (tgt := 18) hx hb dX10_told_9 rfl (fun c9 => ?_) (fun c9 => ?_)
    · have h := br_p c9 h
      exact b18    _ _ _ h hP hS (lv_sub hl [] rfl)
    · have h := br_n c9 h
      refine lv_iload_n hx hb dX10_told_12 rfl (lv_at hl 2 rfl) ?_
      refine lv_bipush (v := 9) hx hb dX10_told_13 rfl ?_
      refine lv_icmp_le (tgt := 28) hx hb dX10_told_15 rfl (fun c15 => ?_) (fun c15 => ?_)
      · have h := br_p c15 h
        refine lv_iload_n hx hb dX10_told_28 rfl (lv_at hl 2 rfl) ?_
        by_cases c29_0 : p1 = 0
        · have h := br_p c29_0 h
          refine lv_tableIn (off := 55) (tgt := 84) hx hb dX10_told_29 (by rw [c29_0]; decide) (by rw [c29_0]; decide) (by rw [c29_0]; rfl) rfl ?_
          refine lv_aload_n hx hb dX10_told_84 rfl (lv_at hl 0 rfl) ?_
          refine gf_X10_60_X_0 X hP dX10_told_85 ?_
          refine gf_X10_260_X_24 X hP dX10_told_88 ?_
          refine lv_iload_n hx hb dX10_told_91 rfl (lv_at hl 1 rfl) ?_
          obtain ⟨hi92, h⟩ := gv_of h
          refine al_X_25 X hP hi92 dX10_told_92 ?_
          exact ret h hP hS dX10_told_93
        have h := br_n c29_0 h
        by_cases c29_1 : p1 = 1
        · have h := br_p c29_1 h
          refine lv_tableIn (off := 131) (tgt := 160) hx hb dX10_told_29 (by rw [c29_1]; decide) (by rw [c29_1]; decide) (by rw [c29_1]; rfl) rfl ?_
          exact b160   p0 p1 _ _ _ h hP hS (lv_sub hl [0, 1, 2] rfl)
        have h := br_n c29_1 h
        by_cases c29_2 : p1 = 2
        · have h := br_p c29_2 h
          refine lv_tableIn (off := 131) (tgt := 160) hx hb dX10_told_29 (by rw [c29_2]; decide) (by rw [c29_2]; decide) (by rw [c29_2]; rfl) rfl ?_
          exact b160   p0 p1 _ _ _ h hP hS (lv_sub hl [0, 1, 2] rfl)
        have h := br_n c29_2 h
        by_cases c29_3 : p1 = 3
        · have h := br_p c29_3 h
          refine lv_tableIn (off := 131) (tgt := 160) hx hb dX10_told_29 (by rw [c29_3]; decide) (by rw [c29_3]; decide) (by rw [c29_3]; rfl) rfl ?_
          exact b160   p0 p1 _ _ _ h hP hS (lv_sub hl [0, 1, 2] rfl)
        have h := br_n c29_3 h
        by_cases c29_4 : p1 = 4
        · have h := br_p c29_4 h
          refine lv_tableIn (off := 65) (tgt := 94) hx hb dX10_told_29 (by rw [c29_4]; decide) (by rw [c29_4]; decide) (by rw [c29_4]; rfl) rfl ?_
          refine lv_aload_n hx hb dX10_told_94 rfl (lv_at hl 0 rfl) ?_
          refine gf_X10_60_X_0 X hP dX10_told_95 ?_
          refine gf_X10_233_X_24 X hP dX10_told_98 ?_
          refine lv_iload_n hx hb dX10_told_101 rfl (lv_at hl 1 rfl) ?_
          obtain ⟨hi102, h⟩ := gv_of h
          refine al_X_28 X hP hi102 dX10_told_102 ?_
          exact ret h hP hS dX10_told_103
        have h := br_n c29_4 h
        by_cases c29_5 : p1 = 5
        · have h := br_p c29_5 h
          refine lv_tableIn (off := 75) (tgt := 104) hx hb dX10_told_29 (by rw [c29_5]; decide) (by rw [c29_5]; decide) (by rw [c29_5]; rfl) rfl ?_
          refine lv_aload_n hx hb dX10_told_104 rfl (lv_at hl 0 rfl) ?_
          refine gf_X10_60_X_0 X hP dX10_told_105 ?_
          refine gf_X10_263_X_24 X hP dX10_told_108 ?_
          refine lv_iload_n hx hb dX10_told_111 rfl (lv_at hl 1 rfl) ?_
          obtain ⟨hi112, h⟩ := gv_of h
          refine al_X_29 X hP hi112 dX10_told_112 ?_
          exact ret h hP hS dX10_told_113
        have h := br_n c29_5 h
        by_cases c29_6 : p1 = 6
        · have h := br_p c29_6 h
          refine lv_tableIn (off := 85) (tgt := 114) hx hb dX10_told_29 (by rw [c29_6]; decide) (by rw [c29_6]; decide) (by rw [c29_6]; rfl) rfl ?_
          refine lv_aload_n hx hb dX10_told_114 rfl (lv_at hl 0 rfl) ?_
          refine gf_X10_60_X_0 X hP dX10_told_115 ?_
          refine gf_X10_266_X_24 X hP dX10_told_118 ?_
          refine lv_iload_n hx hb dX10_told_121 rfl (lv_at hl 1 rfl) ?_
          obtain ⟨hi122, h⟩ := gv_of h
          refine al_X_31 X hP hi122 dX10_told_122 ?_
          exact ret h hP hS dX10_told_123
        have h := br_n c29_6 h
        by_cases c29_7 : p1 = 7
        · have h := br_p c29_7 h
          refine lv_tableIn (off := 95) (tgt := 124) hx hb dX10_told_29 (by rw [c29_7]; decide) (by rw [c29_7]; decide) (by rw [c29_7]; rfl) rfl ?_
          refine lv_aload_n hx hb dX10_told_124 rfl (lv_at hl 0 rfl) ?_
          refine gf_X10_60_X_0 X hP dX10_told_125 ?_
          refine gf_X10_269_X_24 X hP dX10_told_128 ?_
          refine lv_iload_n hx hb dX10_told_131 rfl (lv_at hl 1 rfl) ?_
          obtain ⟨hi132, h⟩ := gv_of h
          refine al_X_32 X hP hi132 dX10_told_132 ?_
          exact ret h hP hS dX10_told_133
        have h := br_n c29_7 h
        by_cases c29_8 : p1 = 8
        · have h := br_p c29_8 h
          refine lv_tableIn (off := 105) (tgt := 134) hx hb dX10_told_29 (by rw [c29_8]; decide) (by rw [c29_8]; decide) (by rw [c29_8]; rfl) rfl ?_
          refine lv_aload_n hx hb dX10_told_134 rfl (lv_at hl 0 rfl) ?_
          refine lv_iload_n hx hb dX10_told_135 rfl (lv_at hl 1 rfl) ?_
          obtain ⟨o2, hco2, h⟩ := bd_of h
          refine kV (rest := []) X dX10_told_136 wd_5_78 mw_X10_kindOf wd_5_80 wp_6_7 hP (k0 := 0) rfl rfl rfl hS (fun _ z => z) (c_X10_kindOf hco2) rfl hl.1 rfl (Nat.le_of_ble_eq_true rfl) rfl rfl ⟨Nat.le_of_ble_eq_true rfl, Nat.le_of_ble_eq_true rfl⟩ (fun H locs hP _ _ hS => ?_)
          refine W.eq (g2 := F0 m 139 ls [.ref (g.2 (20 + o2))]) rfl ?_
          refine ofN X hS ((sfX X).2.2.2.2.2.2.2.2.2.2.2.2.1 _ (kindOf_lt hco2)).2.2.2.2.1 wd_7_233 dX10_told_139 ?_
          exact ret h hP hS dX10_told_142
        have h := br_n c29_8 h
        by_cases c29_9 : p1 = 9
        · have h := br_p c29_9 h
          refine lv_tableIn (off := 114) (tgt := 143) hx hb dX10_told_29 (by rw [c29_9]; decide) (by rw [c29_9]; decide) (by rw [c29_9]; rfl) rfl ?_
          refine lv_aload_n hx hb dX10_told_143 rfl (lv_at hl 0 rfl) ?_
          refine lv_iload_n hx hb dX10_told_144 rfl (lv_at hl 1 rfl) ?_
          obtain ⟨o3, hco3, h⟩ := bd_of h
          refine kV (rest := []) X dX10_told_145 wd_5_78 mw_X10_kindOf wd_5_80 wp_6_7 hP (k0 := 0) rfl rfl rfl hS (fun _ z => z) (c_X10_kindOf hco3) rfl hl.1 rfl (Nat.le_of_ble_eq_true rfl) rfl rfl ⟨Nat.le_of_ble_eq_true rfl, Nat.le_of_ble_eq_true rfl⟩ (fun H locs hP _ _ hS => ?_)
          refine W.eq (g2 := F0 m 148 ls [.ref (g.2 (20 + o3))]) rfl ?_
          refine ofN X hS ((sfX X).2.2.2.2.2.2.2.2.2.2.2.2.1 _ (kindOf_lt hco3)).2.2.2.2.2 wd_7_234 dX10_told_148 ?_
          refine jx1 h (P := fun (v4 : Bool) => ∀ ls : Array Slot, lv_has ls 3 [] → W p l e rm_X10_told s m args below meth c H locs 0 0 Q (F0 m 159 ls [.int (bI v4)])) ?_ ?_
          · intro v4 h ls hl
            exact ret h hP hS dX10_told_159
          · intro J h
            refine rb_eq (tgt := 158) hx hb dX10_told_151 rfl (fun c151 => ?_) (fun c151 => ?_)
            · refine lv_iconst (v := 0) hx hb dX10_told_158 rfl ?_
              exact J _ (lt_in c151 h) ls (lv_sub hl [] rfl)
            · refine lv_iconst (v := 1) hx hb dX10_told_154 rfl ?_
              refine lv_goto (tgt := 159) hx hb dX10_told_155 rfl ?_
              exact J _ (lt_ip c151 h) ls (lv_sub hl [] rfl)
        have h := br_n c29_9 h
        refine lv_tableOut (tgt := 160) hx hb dX10_told_29 (by have := lv_neT (a := 0) c29_0 rfl; have := lv_neT (a := 1) c29_1 rfl; have := lv_neT (a := 2) c29_2 rfl; have := lv_neT (a := 3) c29_3 rfl; have := lv_neT (a := 4) c29_4 rfl; have := lv_neT (a := 5) c29_5 rfl; have := lv_neT (a := 6) c29_6 rfl; have := lv_neT (a := 7) c29_7 rfl; have := lv_neT (a := 8) c29_8 rfl; have := lv_neT (a := 9) c29_9 rfl; omega) rfl ?_
        exact b160   p0 p1 _ _ _ h hP hS (lv_sub hl [0, 1, 2] rfl)
      · have h := br_n c15 h
        exact b18    _ _ _ h hP hS (lv_sub hl [] rfl)
