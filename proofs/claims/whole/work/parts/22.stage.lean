/-! ===== pure part: a stage, and stages one behind the other ===== -/
def upS (tn : Bool) (y z : Int64) : Bool := if tn = true then (if z < (0 : Int64) then false else true) else (if (0 : Int64) ≤ y then false else true)
def stX (md : Nat) (up : Bool) (x a : Int64) : Int64 := if md = 0 then (if up = true then x - a else x + a) else if md = 2 then (if up = true then x + a else x - a) else x
/-- one stage: md the mode, k the shift, an the angle -/
def st1 (md : Nat) (tn nr : Bool) (k : Int32) (an : Int64) (q : Int64 × Int64 × Int64) : Int64 × Int64 × Int64 :=
  (stX md (upS tn q.2.1 q.2.2) q.1 (sh nr q.2.1 k), (if upS tn q.2.1 q.2.2 = true then q.2.1 + sh nr q.1 k else q.2.1 - sh nr q.1 k), (if upS tn q.2.1 q.2.2 = true then q.2.2 - an else q.2.2 + an))
/-- behind s stages: S the shifts, An the angles -/
def stN (md : Nat) (tn nr : Bool) (S : Nat → Int32) (An : Nat → Int64) (q : Int64 × Int64 × Int64) : Nat → Int64 × Int64 × Int64
  | 0 => q
  | s + 1 => st1 md tn nr (S s) (An s) (stN md tn nr S An q s)
def upN (md : Nat) (tn nr : Bool) (S : Nat → Int32) (An : Nat → Int64) (q : Int64 × Int64 × Int64) (s : Nat) : Bool := upS tn (stN md tn nr S An q s).2.1 (stN md tn nr S An q s).2.2
def bitN (md : Nat) (tn nr : Bool) (S : Nat → Int32) (An : Nat → Int64) (q : Int64 × Int64 × Int64) : Nat → Int32
  | 0 => 0
  | s + 1 => bitN md tn nr S An q s ||| (if upN md tn nr S An q s = true then (1 : Int32) <<< (nI s &&& 31) else 0)
def kMd : Nat → Nat
  | 0 => 0
  | 1 => 0
  | 2 => 1
  | 3 => 1
  | 4 => 2
  | 5 => 2
  | 6 => 2
  | 7 => 2
  | _ => 0
theorem kMode_n : ∀ k, k < 9 → kMode k = nI (kMd k) ∧ mdOf k = nI (kMd k) ∧ kMd k < 3 := by decide
theorem x_stage {N md s f : Nat} {tn nr : Bool} {sf : Nat → Int32} {af : Nat → Int64} {x y z : Int64} {ub : Int32} (hN : N ≤ 24) (hs : s < N) (hmd : md < 3) :
    f_X7_goThrough_l22 nr sf af (f + 1) (nI N) tn (nI md) (nI s) x y z ub = f_X7_goThrough_l22 nr sf af f (nI N) tn (nI md) (nI (s + 1)) (st1 md tn nr (sf (md * 24 + s)) (af (md * 24 + s)) (x, y, z)).1 (st1 md tn nr (sf (md * 24 + s)) (af (md * 24 + s)) (x, y, z)).2.1 (st1 md tn nr (sf (md * 24 + s)) (af (md * 24 + s)) (x, y, z)).2.2 (ub ||| (if upS tn y z = true then (1 : Int32) <<< (nI s &&& 31) else 0)) := by
  have h72 : md * 24 + s < 72 := by omega
  rw [f_X7_goThrough_l22, if_neg (nI_ge hs (by omega)), if_neg (ng24 (by omega)), lt_eq, ir24, lt_eq, gv_N h72 (by decide), nI_clamp (by omega), x_shifted, bd_some, gv_N h72 (by decide), x_shifted, bd_some]
  show _ = f_X7_goThrough_l22 nr sf af f (nI N) tn (nI md) (nI (s + 1)) (stX md (upS tn y z) x (sh nr y (sf (md * 24 + s)))) (if upS tn y z = true then y + sh nr x (sf (md * 24 + s)) else y - sh nr x (sf (md * 24 + s))) (if upS tn y z = true then z - af (md * 24 + s) else z + af (md * 24 + s)) (ub ||| (if upS tn y z = true then (1 : Int32) <<< (nI s &&& 31) else 0))
  have hup : (if tn = true then (if z < (0 : Int64) then false else true) else (if (0 : Int64) ≤ y then false else true)) = upS tn y z := rfl
  rw [hup]
  have key : ∀ x' : Int64, f_X7_goThrough_b194 nr sf af (f_X7_goThrough_l22 nr sf af f) (nI N) tn (nI md) (nI s) (nI (md * 24 + s)) (upS tn y z) (sh nr x (sf (md * 24 + s))) x' y z ub = f_X7_goThrough_l22 nr sf af f (nI N) tn (nI md) (nI (s + 1)) x' (if upS tn y z = true then y + sh nr x (sf (md * 24 + s)) else y - sh nr x (sf (md * 24 + s))) (if upS tn y z = true then z - af (md * 24 + s) else z + af (md * 24 + s)) (ub ||| (if upS tn y z = true then (1 : Int32) <<< (nI s &&& 31) else 0)) := by
    intro x'
    unfold f_X7_goThrough_b194 f_X7_goThrough_b259
    cases upS tn y z <;> simp only [lt_eq, gv_N h72 (by decide : 72 < 2 ^ 31), nI_clamp (show md * 24 + s < 2 ^ 31 by omega), nI_1, if_true, if_false, Bool.false_eq_true]
  rcases (show md = 0 ∨ md = 1 ∨ md = 2 by omega) with rfl | rfl | rfl
  · rw [if_pos (by decide : nI 0 = 0), lt_eq, key]
    rfl
  · rw [if_neg (by decide : ¬ nI 1 = 0), if_neg (by decide : ¬ nI 1 = 2), key]
    rfl
  · rw [if_neg (by decide : ¬ nI 2 = 0), if_pos (by decide : nI 2 = 2), lt_eq, key]
    rfl
theorem x_stages {N md : Nat} {tn nr : Bool} {sf : Nat → Int32} {af : Nat → Int64} (q : Int64 × Int64 × Int64) (hN : N ≤ 24) (hmd : md < 3) : ∀ (r s f : Nat), r + s = N → r < f →
    f_X7_goThrough_l22 nr sf af f (nI N) tn (nI md) (nI s) (stN md tn nr (fun i => sf (md * 24 + i)) (fun i => af (md * 24 + i)) q s).1 (stN md tn nr (fun i => sf (md * 24 + i)) (fun i => af (md * 24 + i)) q s).2.1 (stN md tn nr (fun i => sf (md * 24 + i)) (fun i => af (md * 24 + i)) q s).2.2 (bitN md tn nr (fun i => sf (md * 24 + i)) (fun i => af (md * 24 + i)) q s)
      = some ((stN md tn nr (fun i => sf (md * 24 + i)) (fun i => af (md * 24 + i)) q N).1, (stN md tn nr (fun i => sf (md * 24 + i)) (fun i => af (md * 24 + i)) q N).2.1, (stN md tn nr (fun i => sf (md * 24 + i)) (fun i => af (md * 24 + i)) q N).2.2, bitN md tn nr (fun i => sf (md * 24 + i)) (fun i => af (md * 24 + i)) q N) := by
  intro r
  induction r with
  | zero =>
    intro s f hs hf
    obtain ⟨f, rfl⟩ : ∃ g, f = g + 1 := ⟨f - 1, by omega⟩
    have : s = N := by omega
    subst this
    rw [f_X7_goThrough_l22, if_pos (nI_le (Nat.le_refl _) (by omega))]
  | succ r ih =>
    intro s f hs hf
    obtain ⟨f, rfl⟩ : ∃ g, f = g + 1 := ⟨f - 1, by omega⟩
    rw [x_stage hN (by omega) hmd]
    exact ih (s + 1) f (by omega) (by omega)
theorem x_through {k N : Nat} {nr : Bool} {sf : Nat → Int32} {af : Nat → Int64} (hk : k < 9) (hN : N ≤ 24) (x y z : Int64) : f_X7_goThrough (nI k) (nI N) x y z 0 nr sf af = some ((stN (kMd k) (kTurn k) nr (fun i => sf (kMd k * 24 + i)) (fun i => af (kMd k * 24 + i)) (x, y, z) N).1, (stN (kMd k) (kTurn k) nr (fun i => sf (kMd k * 24 + i)) (fun i => af (kMd k * 24 + i)) (x, y, z) N).2.1, (stN (kMd k) (kTurn k) nr (fun i => sf (kMd k * 24 + i)) (fun i => af (kMd k * 24 + i)) (x, y, z) N).2.2, bitN (kMd k) (kTurn k) nr (fun i => sf (kMd k * 24 + i)) (fun i => af (kMd k * 24 + i)) (x, y, z) N) := by
  unfold f_X7_goThrough
  rw [gv_N hk (by decide), gv_N hk (by decide), nI_clamp (by omega), lt_eq, (kMode_n k hk).1]
  exact x_stages (x, y, z) hN (kMode_n k hk).2.2 N 0 FU (by omega) (by show N < 5000; omega)
