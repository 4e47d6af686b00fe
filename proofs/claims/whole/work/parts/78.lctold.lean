/-! ===== the law: told's turn ===== -/
section LawTold
variable {p : Program} {l : Launch} {e : Env} {R : Room} {s : State} {m : MethodId} {args : Array Value} {below : List Frame} {meth : Method} {c : Code} {H : Heap} {locs : List Loc} {Q : State → Prop} {g : gT} {A Ax Am Ao : Nat → Prop} {nL : Nat} {ls : Array Slot} {cells slots sc L i qo : Nat} {xs : Nat → Int32} {qx qm : Nat → Nat} {w : va_W} {o : Option Int32} {a : Array Value} {pc : Nat} {st rest : List Value}
theorem kSL (hr : vx_Run p l e R s m args below meth c H locs cells slots 1 6 (F0 m pc ls st) rest (QtL g Ax Ao w qo o a) (fun _ _ _ => False) (fun q => Ax q ∨ Ao q)) (hS : va_S A s.heap H locs) (hA : ∀ q, (Ax q ∨ Ao q) → A q)
    (kk : ∀ (k : Int32) (f : Nat → Int64) (H1 : Heap) (locs1 : List Loc), WP g Ax w H1 → WP g Ao (oW g qo f) H1 → H.size ≤ H1.size → (∀ q : Nat, q < H.size → ¬ (Ax q ∨ Ao q) → H1[q]? = H[q]?) → va_S A s.heap H1 locs1 → ((o = none ∧ k = 1) ∨ (∃ v : Int32, o = some v ∧ k = 0 ∧ f 0 = v.toInt64)) → W p l e R s m args below meth c H1 locs1 (cells + 1) (slots + 6) Q (F0 m (pc + 3) ls (.int k :: rest))) : W p l e R s m args below meth c H locs cells slots Q (F0 m pc ls st) := by
  intro T hT X
  rcases hr T hT X with ⟨v, st₀, t, T', L, h0, X', hL, e1, e2, ⟨k, f, hv, hp, ho, hF, hd⟩, st⟩ | ⟨q, st₀, t, T', L, E, ce, h0, X', hL, e1, e2, hE, -⟩
  · cases hv
    obtain ⟨k1, k2, k3⟩ := vx_keep h0 e1 hS (fun q _ h => hA q h) hA hL hF
    obtain ⟨t2, a1, b1⟩ := kk k f T'.heap (locs ++ L) (by rw [e1]; exact hp) (by rw [e1]; exact ho) k1 k2 k3 hd T' rfl X'
    exact ⟨t2, st t2 a1, b1⟩
  · exact hE.elim
theorem lc_told (X : CX g A p s m args c cL_law nL RL) (h6 : 6 < nL) (hl0 : l.stackTraces = false) (hST : ST g s s.heap) (hcs : cells + 1 ≤ rmL.cells ∧ slots + 6 ≤ rmL.slots) (hXs : va_X sc L xs s s.heap) (hbl : sc < s.heap.size) (hbA : ¬ A sc) (hL : L < 2 ^ 31) (hi : i + 6 ≤ L) (hAx : ∀ q, Ax q → A q) (hAm : ∀ q, Am q → A q) (hAo : ∀ q, Ao q → A q) (hxm : ∀ q, Ax q → ¬ Am q) (hxo : ∀ q, Ax q → ¬ Ao q) (hmo : ∀ q, Am q → ¬ Ao q) (hl : lv_has ls nL [(0, .ref sc), (1, .ref (qx 0)), (2, .ref (qm 0)), (3, .ref qo), (4, .int (nI i))]) (hS : va_S A s.heap H locs) (h : LW g Ax Am qx qm H) (ho : ∃ f, WP g Ao (oW g qo f) H)
    (kk : ∀ (ls1 : Array Slot) (H1 : Heap) (locs1 : List Loc), lv_has ls1 nL [(0, .ref sc), (1, .ref (qx 0)), (2, .ref (qm 0)), (3, .ref qo), (4, .int (nI i))] → LW g Ax Am qx qm H1 → (∃ f, WP g Ao (oW g qo f) H1) → va_S A s.heap H1 locs1 → W p l e rmL s m args below meth c H1 locs1 (cells + 1) (slots + 6) Q (F0 m 1535 ls1 [])) : W p l e rmL s m args below meth c H locs cells slots Q (F0 m 907 ls []) := by
  obtain ⟨iI, iL, iB, fI, fL, fB, hPX, hPM, R0⟩ := h
  obtain ⟨f, hO⟩ := ho
  have hx := X.1
  have hb := X.2.1
  have h5 : 5 < nL := by omega
  obtain ⟨t, r, k, e1, e2, e3⟩ := s_told R0 (xs (nI i + nI 1).toNatClampNeg) (xs (nI i + nI 2).toNatClampNeg) (iI 31)
  have hA2 : ∀ q, (Ax q ∨ Ao q) → A q := fun q h => h.elim (hAx q) (hAo q)
  refine lv_aload_n hx hb dL_law_907 rfl (lv_at hl 1 rfl) ?_
  refine sc_arg (k := 1) (kk := 1) (q := 0) hx hb hXs hbl hbA hS (lv_at hl 0 rfl) (lv_at hl 4 rfl) hL (by omega) (by decide) rfl dL_law_908 dL_law_909 dL_law_911 dL_law_912 dL_law_913 ?_
  refine sc_arg (k := 2) (kk := 2) (q := 0) hx hb hXs hbl hbA hS (lv_at hl 0 rfl) (lv_at hl 4 rfl) hL (by omega) (by decide) rfl dL_law_914 dL_law_915 dL_law_917 dL_law_918 dL_law_919 ?_
  refine lv_aload_n hx hb dL_law_920 rfl (lv_at hl 3 rfl) ?_
  have hsig : (parseMethodDescriptor yL_told.desc).map (fun d => d.parameters.length) = some 4 := by decide +kernel
  refine kSL (A := A) (Ax := Ax) (Ao := Ao) (o := t) (rest := []) (vx_runSX (As := [.ref (qx 0), .int (xs (nI i + nI 1).toNatClampNeg), .int (xs (nI i + nI 2).toNatClampNeg), .ref qo]) (n := 4) (hh := [(0, 10, 13, 13)]) (fix_g X) (c_L_told (f := f) rfl hxo (c_X10_told e1 hl0)) ⟨⟨rfl, rfl, Nat.le_of_ble_eq_true rfl, Nat.le_of_ble_eq_true rfl, pay_in X.2.2.2.2.1 (goodG0 nx_cw), List.mem_cons_self⟩, X.2.2.2.2.1 _ nx_cw, X.2.2.2.2.1 _ wd_1_0, ⟨by decide, by decide⟩, fun sig h => by rw [h] at hsig; exact (Option.some.inj hsig).symm, X.2.2.2.2.1 _ wd_5_4, X.2.2.2.2.1 _ wd_5_5⟩ ⟨PtL.blind, fun U hU hW => ⟨rfl, by rw [hU]; exact hPX, by rw [hU]; exact hO, X.2.2.2.2.2.at hS hU hW hA2, hST.at X.2.2.2.2.2.1 hS hU hW⟩⟩ rfl rfl hl.1 rfl (lv_room (Nat.le_of_ble_eq_true rfl)) dL_law_921 hcs) hS hA2 (fun k0 f1 H1 locs1 hPX1 hO1 z1 k1 hS1 hd => ?_)
  have hPM1 := hPM.stay k1 (fun q h1 h2 => h2.elim (fun h2 => hxm q h2 h1) (hmo q h1))
  have hk : k = k0 := by
    rcases hd with ⟨d1, d2⟩ | ⟨v, d1, d2, -⟩ <;> rcases e3 with ⟨x1, x2⟩ | ⟨x1, x2⟩
    · rw [x2, d2]
    · rw [d1] at x1; cases x1
    · rw [d1] at x1; cases x1
    · rw [x2, d2]
  have hv : k0 = 0 → f1 0 = r.toInt64 := by
    intro hz
    rcases hd with ⟨d1, d2⟩ | ⟨v, d1, d2, d3⟩
    · rw [hz] at d2; exact absurd d2 (by decide)
    · rcases e3 with ⟨x1, x2⟩ | ⟨x1, x2⟩
      · rw [d1] at x1; cases x1
      · rw [d1] at x1; rw [d3, Option.some.inj x1]
  refine W.eq (g2 := F0 m 924 ls [.int k0]) rfl ?_
  refine lv_istore (lv' := [(5, .int k0), (0, .ref sc), (1, .ref (qx 0)), (2, .ref (qm 0)), (3, .ref qo), (4, .int (nI i))]) hx hb dL_law_924 hl h5 rfl (fun ls hl => ?_)
  refine lv_aload_n hx hb dL_law_926 rfl (lv_at hl 3 rfl) ?_
  refine sc_arg (k := 1) (kk := 1) (q := 0) hx hb hXs hbl hbA hS1 (lv_at hl 1 rfl) (lv_at hl 5 rfl) hL (by omega) (by decide) rfl dL_law_927 dL_law_928 dL_law_930 dL_law_931 dL_law_932 ?_
  refine sc_arg (k := 2) (kk := 2) (q := 0) hx hb hXs hbl hbA hS1 (lv_at hl 1 rfl) (lv_at hl 5 rfl) hL (by omega) (by decide) rfl dL_law_933 dL_law_934 dL_law_936 dL_law_937 dL_law_938 ?_
  refine kVG (rest := []) (k0 := 0) X hcs dL_law_939 wd_7_143 mw_X11_told wd_7_144 wd_7_145 hPM1 rfl rfl rfl hS1 hAm (c_X11_told e2) rfl hl.1 rfl (Nat.le_of_ble_eq_true rfl) rfl rfl ⟨Nat.le_of_ble_eq_true rfl, Nat.le_of_ble_eq_true rfl⟩ (fun H2 locs2 hPM2 z2 k2 hS2 => ?_)
  have hPX2 := hPX1.stay k2 hxm
  have hO2 := hO1.stay k2 (fun q h1 h2 => hmo q h2 h1)
  refine W.eq (g2 := F0 m 942 ls [.int r]) rfl ?_
  refine lv_istore (lv' := [(6, .int r), (5, .int k0), (0, .ref sc), (1, .ref (qx 0)), (2, .ref (qm 0)), (3, .ref qo), (4, .int (nI i))]) hx hb dL_law_942 hl h6 rfl (fun ls hl => ?_)
  refine lv_aload_n hx hb dL_law_944 rfl (lv_at hl 4 rfl) ?_
  refine kVG (rest := []) (k0 := 0) X hcs dL_law_945 wd_5_82 mw_X11_thrown wd_5_83 wd_5_84 hPM2 rfl rfl rfl hS2 hAm (c_X11_thrown rfl) rfl hl.1 rfl (Nat.le_of_ble_eq_true rfl) rfl rfl ⟨Nat.le_of_ble_eq_true rfl, Nat.le_of_ble_eq_true rfl⟩ (fun H3 locs3 hPM3 z3 k3 hS3 => ?_)
  have hPX3 := hPX2.stay k3 hxm
  have hO3 := hO2.stay k3 (fun q h1 h2 => hmo q h2 h1)
  refine W.eq (g2 := F0 m 948 ls [.int k]) rfl ?_
  refine lv_iload hx hb dL_law_948 (lv_at hl 1 rfl) ?_
  refine lv_icmp_eq (tgt := 955) hx hb dL_law_950 rfl (fun _ => ?_) (fun h => absurd hk h)
  have fin : W p l e rmL s m args below meth c H3 locs3 (cells + 1) (slots + 6) Q (F0 m 972 ls []) := by
    refine lv_goto (tgt := 1535) hx hb dL_law_972 rfl ?_
    exact kk ls H3 locs3 (lv_sub hl [2, 3, 4, 5, 6] rfl) (LW.mk hPX3 hPM3 R0) ⟨f1, hO3⟩ hS3
  refine lv_iload hx hb dL_law_955 (lv_at hl 1 rfl) ?_
  refine lv_if_ne (tgt := 972) hx hb dL_law_957 rfl (fun _ => fin) (fun hz => ?_)
  refine lv_aload_n hx hb dL_law_960 rfl (lv_at hl 5 rfl) ?_
  refine lv_iconst (v := 0) hx hb dL_law_961 rfl ?_
  refine va_lald (D := g.1) (i := 0) hx hb X.2.2.2.2.2.2.1 hO3.1 0 1 rfl rfl (show ¬ ((0 : Int32) < 0 ∨ 1 ≤ Int32.toNatClampNeg 0) from by decide) dL_law_962 ?_
  refine lv_iload hx hb dL_law_963 (lv_at hl 0 rfl) ?_
  refine lv_i2l hx hb dL_law_965 rfl ?_
  refine W.lcmp hx hb dL_law_966 (lv_if_eq (tgt := 972) hx hb dL_law_967 rfl (fun _ => fin) (fun h => absurd ((lg_cmp_eq _ _).mpr ?_) h))
  exact hv hz
end LawTold
