/-! ===== the law: hold ===== -/
section LawHold
variable {p : Program} {l : Launch} {e : Env} {s : State} {m : MethodId} {args : Array Value} {below : List Frame} {meth : Method} {c : Code} {H : Heap} {locs : List Loc} {Q : State → Prop} {g : gT} {A Ax Am : Nat → Prop} {nL : Nat} {ls : Array Slot} {cells slots sc L i qo : Nat} {xs : Nat → Int32} {qx qm : Nat → Nat} {R : Room} {rest : List Value} {pc : Nat} {cc : ByteArray}
theorem ne_arg {v : Int32} (hx : p.tables.exec = Jvm.exec) (hb : c.code = cc) (d0 : decode cc pc = .ok (.ifCond .eq 7, 3)) (d1 : decode cc (pc + 3) = .ok (.iconst 1, 1)) (d2 : decode cc (pc + 4) = .ok (.goto 4, 3)) (d3 : decode cc (pc + 7) = .ok (.iconst 0, 1)) (kt : W p l e R s m args below meth c H locs cells slots Q (F0 m (pc + 8) ls (.int (bI (if v = 0 then false else true)) :: rest))) : W p l e R s m args below meth c H locs cells slots Q (F0 m pc ls (.int v :: rest)) := by
  refine lv_if_eq (tgt := pc + 7) hx hb d0 (by omega) (fun h => ?_) (fun h => ?_)
  · rw [if_pos h] at kt
    exact lv_iconst (v := 0) hx hb d3 (by decide) kt
  · rw [if_neg h] at kt
    refine lv_iconst (v := 1) hx hb d1 (by decide) ?_
    exact lv_goto (tgt := pc + 8) hx hb d2 (by omega) kt
theorem lc_hold (X : CX g A p s m args c cL_law nL RL) (hcs : cells ≤ rmL.cells ∧ slots ≤ rmL.slots) (hXs : va_X sc L xs s s.heap) (hbl : sc < s.heap.size) (hbA : ¬ A sc) (hL : L < 2 ^ 31) (hi : i + 6 ≤ L) (hAx : ∀ q, Ax q → A q) (hAm : ∀ q, Am q → A q) (hxm : ∀ q, Ax q → ¬ Am q) (hl : lv_has ls nL [(0, .ref sc), (1, .ref (qx 0)), (2, .ref (qm 0)), (3, .ref qo), (4, .int (nI i))]) (hS : va_S A s.heap H locs) (h : LW g Ax Am qx qm H) (kk : ∀ (H1 : Heap) (locs1 : List Loc), LW g Ax Am qx qm H1 → (∀ q : Nat, q < H.size → ¬ Ax q → ¬ Am q → H1[q]? = H[q]?) → H.size ≤ H1.size → va_S A s.heap H1 locs1 → W p l e rmL s m args below meth c H1 locs1 cells slots Q (F0 m 1535 ls [])) : W p l e rmL s m args below meth c H locs cells slots Q (F0 m 866 ls []) := by
  obtain ⟨iI, iL, iB, fI, fL, fB, hPX, hPM, R0⟩ := h
  have hx := X.1
  have hb := X.2.1
  obtain ⟨o, o2, e1, e2, e3, R1⟩ := s_hold R0 (if xs (nI i + nI 1).toNatClampNeg = 0 then false else true) (iI 31)
  refine lv_aload_n hx hb dL_law_866 rfl (lv_at hl 1 rfl) ?_
  refine sc_arg (k := 1) (kk := 1) (q := 0) hx hb hXs hbl hbA hS (lv_at hl 0 rfl) (lv_at hl 4 rfl) hL (by omega) (by decide) rfl dL_law_867 dL_law_868 dL_law_870 dL_law_871 dL_law_872 ?_
  refine ne_arg hx hb dL_law_873 dL_law_876 dL_law_877 dL_law_880 ?_
  refine kVG (rest := []) (k0 := 0) X hcs dL_law_881 wd_4_122 mw_X10_hold wd_4_123 wd_4_124 hPX rfl rfl rfl hS hAx (c_X10_hold e1) rfl hl.1 rfl (Nat.le_of_ble_eq_true rfl) rfl rfl ⟨Nat.le_of_ble_eq_true rfl, Nat.le_of_ble_eq_true rfl⟩ (fun H1 locs1 hPX1 z1 k1 hS1 => ?_)
  have hPM1 := hPM.stay k1 (fun q h1 h2 => hxm q h2 h1)
  refine W.eq (g2 := F0 m 884 ls [.int (bI o.1)]) rfl ?_
  refine lv_aload_n hx hb dL_law_884 rfl (lv_at hl 2 rfl) ?_
  refine sc_arg (k := 1) (kk := 1) (q := 0) hx hb hXs hbl hbA hS1 (lv_at hl 0 rfl) (lv_at hl 4 rfl) hL (by omega) (by decide) rfl dL_law_885 dL_law_886 dL_law_888 dL_law_889 dL_law_890 ?_
  refine ne_arg hx hb dL_law_891 dL_law_894 dL_law_895 dL_law_898 ?_
  refine kVG (rest := [.int (bI o.1)]) (k0 := 0) X hcs dL_law_899 wd_7_131 mw_X11_hold wd_7_132 wd_7_133 hPM1 rfl rfl rfl hS1 hAm (c_X11_hold e2) rfl hl.1 rfl (Nat.le_of_ble_eq_true rfl) rfl rfl ⟨Nat.le_of_ble_eq_true rfl, Nat.le_of_ble_eq_true rfl⟩ (fun H2 locs2 hPM2 z2 k2 hS2 => ?_)
  have hPX2 := hPX1.stay k2 hxm
  refine W.eq (g2 := F0 m 902 ls [.int (bI o2.1), .int (bI o.1)]) rfl ?_
  refine lv_icmp_eq (tgt := 1535) hx hb dL_law_902 rfl (fun _ => ?_) (fun h => absurd (by rw [e3]) h)
  exact kk H2 locs2 (LW.mk hPX2 hPM2 R1) (fun q h1 h2 h3 => (k2 q (Nat.lt_of_lt_of_le h1 z1) h3).trans (k1 q h1 h2)) (Nat.le_trans z1 z2) hS2
end LawHold
