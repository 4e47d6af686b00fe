/-! ===== the law: all turns ===== -/
section LawLoop
variable {p : Program} {l : Launch} {e : Env} {s : State} {m : MethodId} {args : Array Value} {below : List Frame} {meth : Method} {c : Code} {Q : State → Prop} {g : gT} {A Ax Am : Nat → Prop} {nL sc L qo : Nat} {xs : Nat → Int32} {qx qm : Nat → Nat}
theorem law_loop (X : CX g A p s m args c cL_law nL RL) (h4 : 4 < nL) (cf sf : Nat → Nat) (hcm : ∀ i, cf i ≤ cf (i + 6) ∧ sf i ≤ sf (i + 6)) (hcs : ∀ i, i + 6 ≤ L → cf i ≤ rmL.cells ∧ sf i ≤ rmL.slots) (hXs : va_X sc L xs s s.heap) (hbl : sc < s.heap.size) (hbA : ¬ A sc) (hL : L < 2 ^ 31) (hAx : ∀ q, Ax q → A q) (hAm : ∀ q, Am q → A q) (hxm : ∀ q, Ax q → ¬ Am q)
    (O : Heap → Prop) (hO : ∀ H H1 : Heap, O H → H.size ≤ H1.size → (∀ q : Nat, q < H.size → ¬ Ax q → ¬ Am q → H1[q]? = H[q]?) → O H1)
    (hT : ∀ (i : Nat) (ls : Array Slot) (H : Heap) (locs : List Loc), i + 6 ≤ L → lv_has ls nL [(0, .ref sc), (1, .ref (qx 0)), (2, .ref (qm 0)), (3, .ref qo), (4, .int (nI i))] → va_S A s.heap H locs → LW g Ax Am qx qm H → O H → (∀ (ls1 : Array Slot) (H1 : Heap) (locs1 : List Loc), lv_has ls1 nL [(0, .ref sc), (1, .ref (qx 0)), (2, .ref (qm 0)), (3, .ref qo), (4, .int (nI i))] → LW g Ax Am qx qm H1 → O H1 → va_S A s.heap H1 locs1 → W p l e rmL s m args below meth c H1 locs1 (cf (i + 6)) (sf (i + 6)) Q (F0 m 1535 ls1 [])) → W p l e rmL s m args below meth c H locs (cf i) (sf i) Q (F0 m 907 ls []))
    (hret : ∀ (i : Nat) (ls : Array Slot) (H : Heap) (locs : List Loc), i ≤ L → va_S A s.heap H locs → W p l e rmL s m args below meth c H locs (cf i) (sf i) Q (F0 m 1541 ls [])) :
    ∀ (n i : Nat) (ls : Array Slot) (H : Heap) (locs : List Loc), L < i + n → i ≤ L → lv_has ls nL [(0, .ref sc), (1, .ref (qx 0)), (2, .ref (qm 0)), (3, .ref qo), (4, .int (nI i))] → va_S A s.heap H locs → LW g Ax Am qx qm H → O H → W p l e rmL s m args below meth c H locs (cf i) (sf i) Q (F0 m 23 ls [])
  | 0, i, ls, H, locs => fun h1 h2 _ _ _ _ => by omega
  | n + 1, i, ls, H, locs => by
    intro h1 h2 hl hS h ho
    have hx := X.1
    have hb := X.2.1
    refine lv_iload hx hb dL_law_23 (lv_at hl 4 rfl) ?_
    refine lv_aload_n hx hb dL_law_25 rfl (lv_at hl 0 rfl) ?_
    refine va_slen hx hb hXs hbl hbA hS dL_law_26 ?_
    refine lv_bipush (v := 6) hx hb dL_law_27 rfl ?_
    refine lv_isub hx hb dL_law_29 ?_
    refine lv_icmp_gt (tgt := 1541) hx hb dL_law_30 rfl (fun _ => hret i ls H locs h2 hS) (fun c30 => ?_)
    have hi : i + 6 ≤ L := by
      have e1 : (Int32.ofNat L).toInt = (L : Nat) := nI_toInt hL
      have e2 : (nI i).toInt = (i : Nat) := nI_toInt (by omega)
      have e3 : (Int32.ofNat L - 6).toInt = (L : Int) - 6 := by
        rw [Int32.toInt_sub, e1, show (6 : Int32).toInt = 6 from by decide, Int.bmod_eq_of_le_mul_two] <;> omega
      rw [Int32.lt_iff_toInt_lt, e3, e2] at c30
      omega
    have next : ∀ (ls1 : Array Slot) (H1 : Heap) (locs1 : List Loc), lv_has ls1 nL [(0, .ref sc), (1, .ref (qx 0)), (2, .ref (qm 0)), (3, .ref qo), (4, .int (nI i))] → LW g Ax Am qx qm H1 → O H1 → va_S A s.heap H1 locs1 → W p l e rmL s m args below meth c H1 locs1 (cf (i + 6)) (sf (i + 6)) Q (F0 m 1535 ls1 []) := by
      intro ls1 H1 locs1 hl1 g1 g2 g3
      refine lv_iinc (v := nI (i + 6)) (lv' := [(4, .int (nI (i + 6))), (0, .ref sc), (1, .ref (qx 0)), (2, .ref (qm 0)), (3, .ref qo)]) hx hb dL_law_1535 hl1 (k := 4) rfl (nI_add i 6) h4 rfl (fun ls' hl' => ?_)
      refine lv_goto (tgt := 23) hx hb dL_law_1538 rfl ?_
      exact law_loop X h4 cf sf hcm hcs hXs hbl hbA hL hAx hAm hxm O hO hT hret n (i + 6) ls' H1 locs1 (by omega) hi (lv_sub hl' [1, 2, 3, 4, 0] rfl) g3 g1 g2
    exact lc_turn X (hcs i hi) hXs hbl hbA hL hi hAx hAm hxm hl hS h (fun H1 locs1 g1 k1 z1 g3 => fun T hT2 Y => next ls H1 locs1 hl g1 (hO H H1 ho z1 k1) g3 T hT2 (stand_widen Y (hcm i).1 (hcm i).2)) (hT i ls H locs hi hl hS h ho next)
end LawLoop
