/-! ===== pure part: gains, undos, digits: what the kernel finds for each width and count of stages ===== -/
/-- the reference's halving -/
def bis (v : Int64) : Nat → Int64 → Int64 → Int64
  | 0, lo, _ => lo
  | n + 1, lo, hi => if hi - lo ≤ (1 : Int64) then lo else bis v n (if v < (((lo + hi) / (2 : Int64)) * ((lo + hi) / (2 : Int64))) then lo else ((lo + hi) / (2 : Int64))) (if v < (((lo + hi) / (2 : Int64)) * ((lo + hi) / (2 : Int64))) then ((lo + hi) / (2 : Int64)) else hi)
/-- it has come to its end behind so many rounds -/
def bisE (v : Int64) : Nat → Int64 → Int64 → Bool
  | 0, lo, hi => decide (hi - lo ≤ (1 : Int64))
  | n + 1, lo, hi => if hi - lo ≤ (1 : Int64) then true else bisE v n (if v < (((lo + hi) / (2 : Int64)) * ((lo + hi) / (2 : Int64))) then lo else ((lo + hi) / (2 : Int64))) (if v < (((lo + hi) / (2 : Int64)) * ((lo + hi) / (2 : Int64))) then ((lo + hi) / (2 : Int64)) else hi)
def sV (md N P : Nat) : Int64 := sqV md N >>> (((54 : Int32) - ((2 : Int32) * nI P)).toInt64 &&& 63)
def gnV (md N P : Nat) : Int64 := bis (sV md N P) 31 1 1073741824
def unV (md N P : Nat) : Int64 := ((1 : Int64) <<< (((2 : Int32) * nI P).toInt64 &&& 63)) / gnV md N P
def dX (r : Int64) : Int32 := if (r &&& (1 : Int64)) = (0 : Int64) then (0 : Int32) else ((2 : Int32) - (r &&& (3 : Int64)).toInt32)
def nX (r : Int64) : Int64 := (r - (dX r).toInt64) >>> ((1 : Int32).toInt64 &&& 63)
def dM (r : Int64) : Int32 := if (r - r / (2 : Int64) * (2 : Int64)) = (0 : Int64) then (0 : Int32) else (if (r - r / (4 : Int64) * (4 : Int64)) = (1 : Int64) then (1 : Int32) else (-1 : Int32))
def nM (r : Int64) : Int64 := (r - (dM r).toInt64) / (2 : Int64)
def itX : Nat → Int64 → Int64
  | 0, r => r
  | n + 1, r => itX n (nX r)
def chkD : Nat → Int64 → Bool
  | 0, _ => true
  | n + 1, r => decide (dX r = dM r) && (decide (nX r = nM r) && ((decide (dX r = 0) || (decide (dX r = 1) || decide (dX r = -1))) && chkD n (nX r)))
def chkT (md N P : Nat) : Bool := decide (f_X8_rootOf (sV md N P) = some (gnV md N P)) && (bisE (sV md N P) 31 1 1073741824 && (decide ((0 : Int64) < gnV md N P) && (decide ((unV md N P).toInt32.toInt64 = unV md N P) && chkD 32 (unV md N P))))
theorem chk_0 : ∀ N, N < 25 → 5 ≤ N → ∀ P, P < 27 → 6 ≤ P → chkT 0 N P = true := by decide +kernel
theorem chk_1 : ∀ N, N < 25 → 5 ≤ N → ∀ P, P < 27 → 6 ≤ P → chkT 1 N P = true := by decide +kernel
theorem chk_2 : ∀ N, N < 25 → 5 ≤ N → ∀ P, P < 27 → 6 ≤ P → chkT 2 N P = true := by decide +kernel
theorem chk_all (m : Nat) (hm : m < 3) : ∀ N, N < 25 → 5 ≤ N → ∀ P, P < 27 → 6 ≤ P → chkT m N P = true := by
  rcases (show m = 0 ∨ m = 1 ∨ m = 2 by omega) with rfl | rfl | rfl
  · exact chk_0
  · exact chk_1
  · exact chk_2
