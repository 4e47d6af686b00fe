/-! ===== the base of this proof: values of functions told as Options, worlds, contracts ===== -/
/-- a named value -/
def lt {α β : Type} (e : α) (k : α → β) : β := k e
theorem lt_at {α β : Type} {e x : α} {k : α → β} {r : β} (hx : x = e) (h : lt e k = r) : k x = r := by subst hx; exact h
theorem lt_v {α β : Type} {e : α} {k : α → β} {r : β} (h : lt e k = r) : k e = r := h
theorem lt_ip {α β : Type} {c : Prop} {d : Decidable c} {a b : α} {k : α → β} {r : β} (hc : c) (h : lt (@ite α c d a b) k = r) : lt a k = r := by rw [if_pos hc] at h; exact h
theorem lt_in {α β : Type} {c : Prop} {d : Decidable c} {a b : α} {k : α → β} {r : β} (hc : ¬ c) (h : lt (@ite α c d a b) k = r) : lt b k = r := by rw [if_neg hc] at h; exact h
/-- an index within its row -/
def gv {β : Type} (i : Int32) (n : Nat) (x : Option β) : Option β := if ¬ (i < 0 ∨ n ≤ i.toNatClampNeg) then x else none
theorem gv_of {β : Type} {i : Int32} {n : Nat} {x : Option β} {o : β} (h : gv i n x = some o) : vp_in i n ∧ x = some o := by
  unfold gv at h
  split at h
  · exact ⟨by assumption, h⟩
  · cases h
/-- a divisor that isn't 0 -/
def gz {α β : Type} (c : α) (z : α) (d : Decidable (c = z)) (x : Option β) : Option β := @ite _ (c = z) d none x
theorem gz_of {α β : Type} {c z : α} {d : Decidable (c = z)} {x : Option β} {o : β} (h : gz c z d x = some o) : ¬ c = z ∧ x = some o := by
  unfold gz at h
  split at h
  · cases h
  · exact ⟨by assumption, h⟩
theorem br_p {α : Type} {c : Prop} {d : Decidable c} {x y r : α} (hc : c) (h : @ite α c d x y = r) : x = r := by rw [if_pos hc] at h; exact h
theorem br_n {α : Type} {c : Prop} {d : Decidable c} {x y r : α} (hc : ¬ c) (h : @ite α c d x y = r) : y = r := by rw [if_neg hc] at h; exact h
theorem nz_of {β : Type} {o : β} {P : Prop} (h : (none : Option β) = some o) : P := by cases h
/-- what comes behind a call -/
def bd {α β : Type} (x : Option α) (k : α → Option β) : Option β := match x with
  | some a => k a
  | none => none
theorem bd_of {α β : Type} {x : Option α} {k : α → Option β} {o : β} (h : bd x k = some o) : ∃ a, x = some a ∧ k a = some o := by
  cases x with
  | none => cases h
  | some a => exact ⟨a, rfl, h⟩
/-- a join: the body for every value, then the paths -/
theorem jx1 {α β : Type} {e : α} {k : α → β} {r : β} {P : α → Prop} {G : Prop} (h : lt e k = r) (body : ∀ v, k v = r → P v) (paths : (∀ v, lt v k = r → P v) → lt e k = r → G) : G := paths body h
theorem jx2 {α γ β : Type} {e : α} {e2 : γ} {k : α → γ → β} {r : β} {P : α → γ → Prop} {G : Prop} (h : lt e (fun a => lt e2 (k a)) = r) (body : ∀ v v2, k v v2 = r → P v v2) (paths : (∀ v v2, lt v (fun a => lt v2 (k a)) = r → P v v2) → lt e (fun a => lt e2 (k a)) = r → G) : G := paths body h
theorem jx3 {α γ δ β : Type} {e : α} {e2 : γ} {e3 : δ} {k : α → γ → δ → β} {r : β} {P : α → γ → δ → Prop} {G : Prop} (h : lt e (fun a => lt e2 (fun b => lt e3 (k a b))) = r) (body : ∀ v v2 v3, k v v2 v3 = r → P v v2 v3) (paths : (∀ v v2 v3, lt v (fun a => lt v2 (fun b => lt v3 (k a b))) = r → P v v2 v3) → lt e (fun a => lt e2 (fun b => lt e3 (k a b))) = r → G) : G := paths body h
theorem lt2_ip {α γ β : Type} {c : Prop} {d : Decidable c} {e : α} {x y : γ} {k : α → γ → β} {r : β} (hc : c) (h : lt e (fun a => lt (@ite γ c d x y) (k a)) = r) : lt e (fun a => lt x (k a)) = r := by rw [if_pos hc] at h; exact h
theorem lt2_in {α γ β : Type} {c : Prop} {d : Decidable c} {e : α} {x y : γ} {k : α → γ → β} {r : β} (hc : ¬ c) (h : lt e (fun a => lt (@ite γ c d x y) (k a)) = r) : lt e (fun a => lt y (k a)) = r := by rw [if_neg hc] at h; exact h
theorem lt3_ip {α γ δ β : Type} {c : Prop} {d : Decidable c} {e : α} {e2 : γ} {x y : δ} {k : α → γ → δ → β} {r : β} (hc : c) (h : lt e (fun a => lt e2 (fun b => lt (@ite δ c d x y) (k a b))) = r) : lt e (fun a => lt e2 (fun b => lt x (k a b))) = r := by rw [if_pos hc] at h; exact h
theorem lt3_in {α γ δ β : Type} {c : Prop} {d : Decidable c} {e : α} {e2 : γ} {x y : δ} {k : α → γ → δ → β} {r : β} (hc : ¬ c) (h : lt e (fun a => lt e2 (fun b => lt (@ite δ c d x y) (k a b))) = r) : lt e (fun a => lt e2 (fun b => lt y (k a b))) = r := by rw [if_neg hc] at h; exact h
/-- no loop of the two classes goes round more often -/
def FU : Nat := 5000
def bI : Bool → Int32
  | true => 1
  | false => 0
theorem bI_0 {b : Bool} (h : bI b = 0) : b = false := by
  cases b with
  | true => exact absurd h (by decide)
  | false => rfl
theorem bI_n0 {b : Bool} (h : ¬ bI b = 0) : b = true := by
  cases b with
  | true => rfl
  | false => exact absurd rfl h
theorem bI_nar (b : Bool) : narrow .boolean (.int (bI b)) = .int (bI b) := by cases b <;> rfl
theorem bI_fit (b : Bool) : fits .boolean (.int (bI b)) = true := by cases b <;> rfl
def updB (f : Nat → Bool) (k : Nat) (x : Bool) : Nat → Bool := fun j => if j = k then x else f j
theorem bI_upd (f : Nat → Bool) (k : Nat) (x : Bool) : upd (fun i => bI (f i)) k (vp_nar .boolean (bI x)) = fun i => bI (updB f k x i) := by
  funext j
  unfold upd updB
  split
  · cases x <;> rfl
  · rfl
/-! worlds -/
abbrev gT : Type := va_G × (Nat → Nat)
def WP (g : gT) (A : Nat → Prop) (ws : va_W) (H : Heap) : Prop := va_P g.1 vwCl ws H ∧ va_D A ws
def gTys (g : gT) : List (ClassId × FieldType) := [(g.2 0, .int), (g.2 1, .long), (g.2 2, .byte), (g.2 3, .boolean)]
def KK (g : gT) (U : State) : Prop := va_K g.1 vwCl (gTys g) U
def isNest : Cond → Bool
  | .fieldLinkNest _ _ _ _ _ _ => true
  | .methodLinkNest _ _ _ _ => true
  | _ => false
def nestW : List Cond := tables_1.filter isNest
def gw : List Cond := lw_tbl.filter goodWord
theorem nest_warm {w : Cond} {s U : State} (hw : isNest w = true) (hW : s.WarmedH U.vm) (h : va_Nw w s) : va_Nw w U := by
  cases w with
  | fieldLinkNest a b c d e f => exact va_Nw.warmF hW h
  | methodLinkNest a b c d => exact va_Nw.warmM hW h
  | _ => cases hw
theorem nest_same {w : Cond} {s U : State} (hw : isNest w = true) (hv : s.vm = U.vm) (h : va_Nw w s) : va_Nw w U := by
  cases w with
  | fieldLinkNest a b c d e f => exact va_Nw.same rfl hv h
  | methodLinkNest a b c d => exact va_Nw.same rfl hv h
  | _ => cases hw
theorem nest_use {w : Cond} {s : State} {args : Array Value} (hw : isNest w = true) (h : va_Nw w s) : w.before args s = true := by
  cases w with
  | fieldLinkNest a b c d e f => exact va_Nw.use rfl h
  | methodLinkNest a b c d => exact va_Nw.use rfl h
  | _ => cases hw
/-! what the statics hold: tables of the two enums, the switches, the texts -/
def kMode : Nat → Int32
  | 0 => 0
  | 1 => 0
  | 2 => 1
  | 3 => 1
  | 4 => 2
  | 5 => 2
  | 6 => 2
  | 7 => 2
  | 8 => 0
  | _ => 0
def kNames : Nat → Int32
  | 0 => 1
  | 1 => 2
  | 2 => 2
  | 3 => 2
  | 4 => 1
  | 5 => 1
  | 6 => 1
  | 7 => 1
  | 8 => 3
  | _ => 0
def kTurn : Nat → Bool
  | 0 => true
  | 1 => false
  | 2 => true
  | 3 => false
  | 4 => true
  | 5 => true
  | 6 => false
  | 7 => false
  | 8 => true
  | _ => false
def swK : Nat → Int32
  | 0 => 1
  | 1 => 2
  | 2 => 3
  | 3 => 4
  | 4 => 5
  | 5 => 6
  | 6 => 8
  | 7 => 9
  | 8 => 7
  | _ => 0
def swP : Nat → Int32
  | 0 => 1
  | 1 => 2
  | 2 => 3
  | 3 => 5
  | 4 => 6
  | 5 => 4
  | _ => 0
def mdOf : Nat → Int32
  | 0 => 0
  | 1 => 0
  | 2 => 1
  | 3 => 1
  | 4 => 2
  | 5 => 2
  | 6 => 2
  | 7 => 2
  | 8 => 0
  | _ => 0
def pLeast : Nat → Int32
  | 0 => 6
  | 1 => 0
  | 2 => 5
  | 3 => 0
  | 4 => 1
  | 5 => 0
  | _ => 0
def pGreat : Nat → Int32
  | 0 => 22
  | 1 => 4
  | 2 => 24
  | 3 => 0
  | 4 => 12
  | 5 => 0
  | _ => 0
def sTab : List (List Nat) := [[115, 105, 110, 101], [112, 111, 108, 97, 114], [116, 105, 109, 101, 115], [111, 118, 101, 114], [98, 111, 119], [112, 111, 119, 101, 114], [108, 111, 103], [114, 111, 111, 116], [116, 117, 114, 110], [119, 105, 100, 116, 104], [103, 117, 97, 114, 100], [115, 116, 97, 103, 101, 115], [112, 105, 112, 101], [102, 111, 108, 100], [110, 101, 97, 114], [119, 105, 100, 116, 104], [103, 117, 97, 114, 100], [115, 116, 97, 103, 101, 115], [102, 111, 108, 100], [110, 101, 97, 114], [112, 105, 112, 101], [115, 105, 110, 101], [112, 111, 108, 97, 114], [116, 105, 109, 101, 115], [111, 118, 101, 114], [98, 111, 119], [112, 111, 119, 101, 114], [108, 111, 103], [114, 111, 111, 116], [116, 117, 114, 110], [110, 111, 32, 115, 117, 99, 104, 32, 106, 111, 98, 44, 32, 110, 111, 116, 104, 105, 110, 103, 32, 115, 117, 99, 104, 32, 111, 102, 32, 97, 32, 106, 111, 98]]
def sL (n : Nat) : Nat := (sTab.getD n []).length
def sCh (n j : Nat) : Int32 := Int32.ofNat ((sTab.getD n []).getD j 0)
def mStr : List (Nat × String) := [(42, "width"), (48, "guard"), (50, "stages"), (52, "fold"), (54, "near"), (56, "pipe"), (99, "sine"), (101, "polar"), (103, "times"), (105, "over"), (107, "bow"), (109, "power"), (111, "log"), (113, "root"), (115, "turn")]
def gB (g : gT) : Nat → Prop := fun a => g.2 4 ≤ a
def SF (g : gT) (U : State) (H : Heap) : Prop :=
  va_Z "TurnShifts" "KINDS" "[LTurnShifts$Kind;" (.ref (g.2 5)) (gB g) U H ∧ va_Z "TurnShifts" "PIECES" "[LTurnShifts$Piece;" (.ref (g.2 6)) (gB g) U H ∧
  va_Z "TurnShifts$1" "$SwitchMap$TurnShifts$Kind" "[I" (.ref (g.2 7)) (gB g) U H ∧ va_Z "TurnShifts$1" "$SwitchMap$TurnShifts$Piece" "[I" (.ref (g.2 8)) (gB g) U H ∧
  va_Z "TurnShiftsModel" "MODE_OF" "[I" (.ref (g.2 9)) (gB g) U H ∧ va_Z "java/lang/String" "COMPACT_STRINGS" "Z" (.int 1) (gB g) U H ∧
  va_Zq "jdk/internal/util/Preconditions" "SIOOBE_FORMATTER" "Ljava/util/function/BiFunction;" (gB g) U H ∧
  va_T (.object "TurnShifts$Kind") (g.2 5) 9 (fun i => .ref (g.2 (20 + i))) (gB g) U H ∧ va_T (.object "TurnShifts$Piece") (g.2 6) 6 (fun i => .ref (g.2 (40 + i))) (gB g) U H ∧
  va_T .int (g.2 7) 9 (fun i => .int (swK i)) (gB g) U H ∧ va_T .int (g.2 8) 6 (fun i => .int (swP i)) (gB g) U H ∧ va_T .int (g.2 9) 9 (fun i => .int (mdOf i)) (gB g) U H ∧
  (∀ i : Nat, i < 9 → va_O "TurnShifts$Kind" (g.2 (20 + i)) (gB g) U H ∧ va_OF "java/lang/Enum" "ordinal" "I" (.int (Int32.ofNat i)) (g.2 (20 + i)) (gB g) U H ∧ va_OF "TurnShifts$Kind" "word" "Ljava/lang/String;" (.ref (g.2 (60 + i))) (g.2 (20 + i)) (gB g) U H ∧
    va_OF "TurnShifts$Kind" "names" "I" (.int (kNames i)) (g.2 (20 + i)) (gB g) U H ∧ va_OF "TurnShifts$Kind" "mode" "I" (.int (kMode i)) (g.2 (20 + i)) (gB g) U H ∧ va_OF "TurnShifts$Kind" "turning" "Z" (.int (bI (kTurn i))) (g.2 (20 + i)) (gB g) U H) ∧
  (∀ i : Nat, i < 6 → va_O "TurnShifts$Piece" (g.2 (40 + i)) (gB g) U H ∧ va_OF "java/lang/Enum" "ordinal" "I" (.int (Int32.ofNat i)) (g.2 (40 + i)) (gB g) U H ∧ va_OF "TurnShifts$Piece" "word" "Ljava/lang/String;" (.ref (g.2 (60 + (9 + i)))) (g.2 (40 + i)) (gB g) U H ∧
    va_OF "TurnShifts$Piece" "least" "I" (.int (pLeast i)) (g.2 (40 + i)) (gB g) U H ∧ va_OF "TurnShifts$Piece" "greatest" "I" (.int (pGreat i)) (g.2 (40 + i)) (gB g) U H) ∧
  (∀ i : Nat, i < 31 → va_O "java/lang/String" (g.2 (60 + i)) (gB g) U H ∧ va_OF "java/lang/String" "coder" "B" (.int 0) (g.2 (60 + i)) (gB g) U H ∧ va_OF "java/lang/String" "value" "[B" (.ref (g.2 (100 + i))) (g.2 (60 + i)) (gB g) U H ∧
    va_T .byte (g.2 (100 + i)) (sL i) (fun j => .int (sCh i j)) (gB g) U H) ∧
  (∀ (j : Nat) (q : Nat × String), mStr[j]? = some q → vk_R "TurnShiftsModel" q.1 q.2 (g.2 (60 + (15 + j))) U) ∧ vk_R "TurnShifts" 255 "no such job, nothing such of a job" (g.2 (60 + 30)) U
theorem SF.moved {g : gT} {u U : State} {H : Heap} (hvm : u.vm.Alike U.vm) (hR : ∀ (own tx : String) (k a : Nat), vk_R own k tx a u → vk_R own k tx a U) (h : SF g u H) : SF g U H := by
  obtain ⟨h1, h2, h3, h4, h5, h6, h7, h8, h9, h10, h11, h12, h13, h14, h15, h16, h17⟩ := h
  exact ⟨h1.moved hvm, h2.moved hvm, h3.moved hvm, h4.moved hvm, h5.moved hvm, h6.moved hvm, h7.moved hvm, h8.moved hvm, h9.moved hvm, h10.moved hvm, h11.moved hvm, h12.moved hvm,
    fun i hi => ⟨(h13 i hi).1.moved hvm, (h13 i hi).2.1.moved hvm, (h13 i hi).2.2.1.moved hvm, (h13 i hi).2.2.2.1.moved hvm, (h13 i hi).2.2.2.2.1.moved hvm, (h13 i hi).2.2.2.2.2.moved hvm⟩,
    fun i hi => ⟨(h14 i hi).1.moved hvm, (h14 i hi).2.1.moved hvm, (h14 i hi).2.2.1.moved hvm, (h14 i hi).2.2.2.1.moved hvm, (h14 i hi).2.2.2.2.moved hvm⟩,
    fun i hi => ⟨(h15 i hi).1.moved hvm, (h15 i hi).2.1.moved hvm, (h15 i hi).2.2.1.moved hvm, (h15 i hi).2.2.2.moved hvm⟩, fun j q hq => hR _ _ _ _ (h16 j q hq), hR _ _ _ _ h17⟩
theorem SF.kept {g : gT} {U : State} {H H1 : Heap} (h : SF g U H) (hq : ∀ a : Nat, a < H.size → ¬ gB g a → H1[a]? = H[a]?) : SF g U H1 := by
  obtain ⟨h1, h2, h3, h4, h5, h6, h7, h8, h9, h10, h11, h12, h13, h14, h15, h16, h17⟩ := h
  exact ⟨h1.kept hq, h2.kept hq, h3.kept hq, h4.kept hq, h5.kept hq, h6.kept hq, h7.kept hq, h8.kept hq, h9.kept hq, h10.kept hq, h11.kept hq, h12.kept hq,
    fun i hi => ⟨(h13 i hi).1.kept hq, (h13 i hi).2.1.kept hq, (h13 i hi).2.2.1.kept hq, (h13 i hi).2.2.2.1.kept hq, (h13 i hi).2.2.2.2.1.kept hq, (h13 i hi).2.2.2.2.2.kept hq⟩,
    fun i hi => ⟨(h14 i hi).1.kept hq, (h14 i hi).2.1.kept hq, (h14 i hi).2.2.1.kept hq, (h14 i hi).2.2.2.1.kept hq, (h14 i hi).2.2.2.2.kept hq⟩,
    fun i hi => ⟨(h15 i hi).1.kept hq, (h15 i hi).2.1.kept hq, (h15 i hi).2.2.1.kept hq, (h15 i hi).2.2.2.kept hq⟩, h16, h17⟩
/-- what holds everywhere: cells that may change lie above, classes, links of nest mates, statics -/
def GG (g : gT) (A : Nat → Prop) (U : State) (H : Heap) : Prop := (∀ a, A a → g.2 4 ≤ a) ∧ KK g U ∧ (∀ w ∈ nestW, va_Nw w U) ∧ SF g U H
theorem GG.at {g : gT} {A0 A1 : Nat → Prop} {s U : State} {H : Heap} {locs : List Loc} (h : GG g A0 s s.heap) (hS : va_S A0 s.heap H locs) (hU : U.heap = H) (hW : s.WarmedH U.vm) (hA : ∀ a, A1 a → A0 a) : GG g A1 U U.heap := by
  obtain ⟨h1, h2, h3, h4⟩ := h
  refine ⟨fun a ha => h1 a (hA a ha), va_K.moved hW.alike h2, fun w hw => nest_warm (List.mem_filter.mp hw).2 hW (h3 w hw), ?_⟩
  rw [hU]
  exact (h4.moved hW.alike (fun _ _ _ _ h => h.warm hW)).kept (fun a ha hn => hS.2.1 a ha (fun z => hn (h1 a z)))
theorem GG.blind {g : gT} {A : Nat → Prop} {U : State} (h : GG g A U U.heap) (f : JFrame) (mk : MethodId) (a : Array Value) : GG g A (U.calling f mk a) (U.calling f mk a).heap := by
  obtain ⟨h1, h2, h3, h4⟩ := h
  exact ⟨h1, va_K.moved (u := U) (U := U.calling f mk a) (Vm.Alike.refl U.vm) h2, fun w hw => nest_same (s := U) (U := U.calling f mk a) (List.mem_filter.mp hw).2 rfl (h3 w hw), SF.moved (u := U) (U := U.calling f mk a) (Vm.Alike.refl U.vm) (fun _ _ _ _ h => h.same rfl) h4⟩
/-- a contract: from the world w, with the values av, the method returns r and leaves the world w' -/
def Qst (g : gT) (A : Nat → Prop) (w' : va_W) (r : Option Value) : Array Value → State → Outcome → State → Prop := fun _ st oc t => oc = .returned r ∧ WP g A w' t.heap ∧ va_F A st t
def Pst (g : gT) (A : Nat → Prop) (w : va_W) (av : List Value) : Array Value → State → Prop := va_Pc av (fun U => WP g A w U.heap ∧ GG g A U U.heap)
theorem Pst.blind {g : gT} {A : Nat → Prop} {w : va_W} {av : List Value} : FrameBlind (Pst g A w av) := fun _ _ f mk h => ⟨h.1, h.2.1, h.2.2.blind f mk _⟩
def Std (g : gT) (l : Launch) (y : MethodName) (ws : List Cond) (rm : Room) (A : Nat → Prop) (av : List Value) (w w' : va_W) (r : Option Value) : Prop := Met l y ws rm (Pst g A w av) (Qst g A w' r) 0 0 A
def CX (g : gT) (A : Nat → Prop) (p : Program) (s : State) (m : MethodId) (args : Array Value) (c : Code) (cc : ByteArray) (nL : Nat) (own : String) : Prop :=
  p.tables.exec = Jvm.exec ∧ c.code = cc ∧ c.maxLocals = nL ∧ s.vm.findClass own = some m.cls ∧ (∀ w ∈ gw, w.before args s = true) ∧ GG g A s s.heap
theorem metF {l : Launch} {y : MethodName} {ws ws' : List Cond} {rm : Room} {Pc : Array Value → State → Prop} {Qc : Array Value → State → Outcome → State → Prop} {mc ms : Nat} {free : Addr → Prop} {cc : ByteArray} {maxL : Nat} {ret : Option FieldType}
    (hy : plainFor y = true) (hw : ws = Cond.code y cc maxL ret :: ws')
    (body : ∀ p e s m args below meth c s₁, BodyLoose p l y (headSpec ws rm) cc maxL ret e s m args below meth c s₁ → c.maxLocals = maxL → Pc args s →
      W p l e (headSpec ws rm).room s m args below meth c s.heap [] 0 0 (MQ below Qc args s mc ms free) (entryFrame m args maxL)) : Met l y ws rm Pc Qc mc ms free := by
  refine MetFree.of_bodySF (code := cc) (maxLocals := maxL) (ret := ret) hy ?_ ?_
  · intro args s m h hn
    obtain ⟨meth, c, h1, h2, h3, h4, h5, h6, -, -⟩ := Cond.code_spec hn (atoms_spec (ws := ws) h _ (by rw [hw]; exact List.mem_cons_self))
    exact ⟨meth, c, h1, h2, h3, h4, h5, h6⟩
  · intro p e s m args below meth c s₁ B hml hP _
    have hh : s₁.heap = s.heap := by rw [B.state]; rfl
    obtain ⟨t, h1, o, h2, h3, h4, h5⟩ := body p e s m args below meth c s₁ B hml hP s₁ hh (Stand.of_body B)
    exact ⟨t, o, h1, h2, h3, h4, h5⟩
section BaseRows
variable {g : gT} {l : Launch} {y : MethodName} {rm : Room} {A : Nat → Prop} {av : List Value} {w w' : va_W} {cc : ByteArray} {maxL : Nat} {own : String}
theorem std_of {r : Option Value} {ret : Option FieldType} (hy : plainFor y = true) (ho : y.cls = own) (hlen : (lg_sl av).length ≤ maxL)
    (body : ∀ p e s m args below meth c, CX g A p s m args c cc maxL own → meth.sig.returnType = ret → meth.locks = false → WP g A w s.heap → va_S A s.heap s.heap [] → ∀ ls : Array Slot, lv_has ls maxL (lv_args 0 av) →
      W p l e rm s m args below meth c s.heap [] 0 0 (MQ below (Qst g A w' r) args s 0 0 A) (F0 m 0 ls [])) : Std g l y (.code y cc maxL ret :: gw) rm A av w w' r := by
  refine metF (cc := cc) (maxL := maxL) (ret := ret) hy rfl ?_
  intro p e s m args below meth c s₁ B hml hv
  obtain ⟨rfl, hP, hG⟩ := hv
  have hts := atoms_spec (ws := .code y cc maxL ret :: gw) B.pre
  have hown : s.vm.findClass y.cls = some m.cls := findClass_of_methodNamed B.named
  rw [lg_entry_eq]
  exact body p e s m av.toArray below meth c ⟨B.exec, B.bytes, hml, ho ▸ hown, fun w h => hts w (List.mem_cons_of_mem _ h), hG⟩ B.returns B.notSynchronized hP va_S.rf _ (lv_entry av hlen)
/-- a method that returns an int -/
theorem std_i {v : Int32} (hy : plainFor y = true) (ho : y.cls = own) (hlen : (lg_sl av).length ≤ maxL)
    (body : ∀ p e s m args below meth c Q, CX g A p s m args c cc maxL own → (∀ {H : Heap} {locs : List Loc} {pc : Nat} {ls : Array Slot}, WP g A w' H → va_S A s.heap H locs → decode cc pc = .ok (.ireturn, 1) → W p l e rm s m args below meth c H locs 0 0 Q (F0 m pc ls [.int v])) → ∀ (H : Heap) (locs : List Loc), WP g A w H → va_S A s.heap H locs → ∀ ls : Array Slot, lv_has ls maxL (lv_args 0 av) →
      W p l e rm s m args below meth c H locs 0 0 Q (F0 m 0 ls [])) : Std g l y (.code y cc maxL (some .int) :: gw) rm A av w w' (some (.int v)) :=
  std_of hy ho hlen (fun p e s m args below meth c X hr hlk hP hS ls hl => body p e s m args below meth c _ X (fun hP hS hd => W.iret X.1 X.2.1 hr (fun t ht hW => ⟨rfl, by rw [ht]; exact hP, hS.F ht⟩) hS.2.2 hd hlk) _ _ hP hS ls hl)
/-- a method that returns a boolean -/
theorem std_z {v : Bool} (hy : plainFor y = true) (ho : y.cls = own) (hlen : (lg_sl av).length ≤ maxL)
    (body : ∀ p e s m args below meth c Q, CX g A p s m args c cc maxL own → (∀ {H : Heap} {locs : List Loc} {pc : Nat} {ls : Array Slot}, WP g A w' H → va_S A s.heap H locs → decode cc pc = .ok (.ireturn, 1) → W p l e rm s m args below meth c H locs 0 0 Q (F0 m pc ls [.int (bI v)])) → ∀ (H : Heap) (locs : List Loc), WP g A w H → va_S A s.heap H locs → ∀ ls : Array Slot, lv_has ls maxL (lv_args 0 av) →
      W p l e rm s m args below meth c H locs 0 0 Q (F0 m 0 ls [])) : Std g l y (.code y cc maxL (some .boolean) :: gw) rm A av w w' (some (.int (bI v))) :=
  std_of hy ho hlen (fun p e s m args below meth c X hr hlk hP hS ls hl => body p e s m args below meth c _ X (fun hP hS hd => W.zret X.1 X.2.1 hr (bI_nar v) (fun t ht hW => ⟨rfl, by rw [ht]; exact hP, hS.F ht⟩) hS.2.2 hd hlk) _ _ hP hS ls hl)
/-- a method that returns a long -/
theorem std_l {v : Int64} (hy : plainFor y = true) (ho : y.cls = own) (hlen : (lg_sl av).length ≤ maxL)
    (body : ∀ p e s m args below meth c Q, CX g A p s m args c cc maxL own → (∀ {H : Heap} {locs : List Loc} {pc : Nat} {ls : Array Slot}, WP g A w' H → va_S A s.heap H locs → decode cc pc = .ok (.lreturn, 1) → W p l e rm s m args below meth c H locs 0 0 Q (F0 m pc ls [.long v])) → ∀ (H : Heap) (locs : List Loc), WP g A w H → va_S A s.heap H locs → ∀ ls : Array Slot, lv_has ls maxL (lv_args 0 av) →
      W p l e rm s m args below meth c H locs 0 0 Q (F0 m 0 ls [])) : Std g l y (.code y cc maxL (some .long) :: gw) rm A av w w' (some (.long v)) :=
  std_of hy ho hlen (fun p e s m args below meth c X hr hlk hP hS ls hl => body p e s m args below meth c _ X (fun hP hS hd => W.lret X.1 X.2.1 hr (fun t ht hW => ⟨rfl, by rw [ht]; exact hP, hS.F ht⟩) hS.2.2 hd hlk) _ _ hP hS ls hl)
/-- a method that returns nothing -/
theorem std_v (hy : plainFor y = true) (ho : y.cls = own) (hlen : (lg_sl av).length ≤ maxL)
    (body : ∀ p e s m args below meth c Q, CX g A p s m args c cc maxL own → (∀ {H : Heap} {locs : List Loc} {pc : Nat} {ls : Array Slot}, WP g A w' H → va_S A s.heap H locs → decode cc pc = .ok (.return_, 1) → W p l e rm s m args below meth c H locs 0 0 Q (F0 m pc ls [])) → ∀ (H : Heap) (locs : List Loc), WP g A w H → va_S A s.heap H locs → ∀ ls : Array Slot, lv_has ls maxL (lv_args 0 av) →
      W p l e rm s m args below meth c H locs 0 0 Q (F0 m 0 ls [])) : Std g l y (.code y cc maxL none :: gw) rm A av w w' none :=
  std_of hy ho hlen (fun p e s m args below meth c X hr hlk hP hS ls hl => body p e s m args below meth c _ X (fun hP hS hd => W.vret X.1 X.2.1 hr (fun t ht hW => ⟨rfl, by rw [ht]; exact hP, hS.F ht⟩) hS.2.2 hd hlk) _ _ hP hS ls hl)
end BaseRows
section BaseCalls
variable {p : Program} {l : Launch} {e : Env} {R : Room} {s : State} {m : MethodId} {args : Array Value} {below : List Frame} {meth : Method} {c : Code} {H : Heap} {locs : List Loc} {Q : State → Prop} {g : gT} {A A1 : Nat → Prop} {cc bytes : ByteArray} {nL maxL index n : Nat} {own host C : String} {y : MethodName} {ret : Option FieldType} {rm : Room} {w w' : va_W} {b : Nat} {As st rest : List Value} {pc : Nat} {ls : Array Slot}
theorem gw_good : ∀ w ∈ gw, goodWord w = true := fun _ h => (List.mem_filter.mp h).2
theorem goodG {c0 c1 : Cond} (h : c1 ∈ gw) : GoodIn (c0 :: gw) (c1 :: gw) := fun w hw => by
  have h1 : w ∈ gw := by
    rcases List.mem_cons.mp hw with e | h2
    · rw [e]; exact h
    · exact h2
  exact ⟨List.mem_cons_of_mem _ h1, good_of_word (gw_good w h1)⟩
theorem goodG0 {c1 : Cond} (h : c1 ∈ gw) : GoodIn gw (c1 :: gw) := fun w hw => by
  have h1 : w ∈ gw := by
    rcases List.mem_cons.mp hw with e | h2
    · rw [e]; exact h
    · exact h2
  exact ⟨h1, good_of_word (gw_good w h1)⟩
/-- what is the same in every call of a method: its words, that its name is plain, how many values it takes -/
def MW (y : MethodName) (bytes : ByteArray) (maxL n : Nat) (ret : Option FieldType) : Prop :=
  Cond.code y bytes maxL ret ∈ gw ∧ Cond.initialized y.cls ∈ gw ∧ y.cls ≠ "java/lang/invoke/MethodHandle" ∧ y.cls ≠ "java/lang/invoke/VarHandle" ∧ (parseMethodDescriptor y.desc).map (fun d => d.parameters.length) = some n
theorem callB_g (X : CX g A p s m args c cc nL own) (hM : MW y bytes maxL n ret) (hl : (Cond.methodLink own index y).before args s = true) (hrc : rm.cells = 0) (hrs : rm.slots = 0) (hR : rm.frames + 1 ≤ R.frames ∧ 8 + (maxL + 11) + rm.locals ≤ R.locals) : CallB R s args own index y bytes maxL ret (.code y bytes maxL ret :: gw) rm 0 0 n :=
  callB_of n X.2.2.2.2.1 (goodG0 hM.1) rfl hrc hrs (X.2.2.2.2.1 _ hM.2.1) hl hM.2.2 hR
theorem callN_g (X : CX g A p s m args c cc nL own) (hM : MW y bytes maxL n ret) (hl : va_Nw (.methodLinkNest own index y host) s) (hrc : rm.cells = 0) (hrs : rm.slots = 0) (hR : rm.frames + 1 ≤ R.frames ∧ 8 + (maxL + 11) + rm.locals ≤ R.locals) : va_CN R s args own index y host bytes maxL ret (.code y bytes maxL ret :: gw) rm 0 0 n :=
  va_cnB n X.2.2.2.2.1 (goodG0 hM.1) rfl hrc hrs hl (X.2.2.2.2.1 _ hM.2.1) hM.2.2 hR
theorem fix_g (X : CX g A p s m args c cc nL own) : CallFix p m c cc nL s args gw own := ⟨X.1, X.2.1, X.2.2.1, X.2.2.2.1, X.2.2.2.2.1⟩
/-- behind a call -/
theorem call_go {r : Option Value} {a : Array Value} (hr : va_Run p l e R s m args below meth c H locs 0 0 0 0 (F0 m pc ls st) rest (Qst g A1 w' r a) A1) (hS : va_S A s.heap H locs) (hA : ∀ q, A1 q → A q)
    (kk : ∀ (H1 : Heap) (locs1 : List Loc), WP g A1 w' H1 → H.size ≤ H1.size → (∀ q : Nat, q < H.size → ¬ A1 q → H1[q]? = H[q]?) → va_S A s.heap H1 locs1 → W p l e R s m args below meth c H1 locs1 0 0 Q (F0 m (pc + 3) ls (r.toList ++ rest))) : W p l e R s m args below meth c H locs 0 0 Q (F0 m pc ls st) := by
  intro T hT X
  obtain ⟨v, st₀, t, T', L, h0, X', hL, e1, e2, ⟨hv, hp, hz, hk⟩, st⟩ := hr T hT X
  cases hv
  rw [h0] at hz hk
  obtain ⟨t2, a1, b1⟩ := kk T'.heap (locs ++ L) (by rw [e1]; exact hp) (by rw [e1]; exact hz) (fun q h1 h2 => by rw [e1]; exact hk q h1 h2)
    ⟨Nat.le_trans hS.1 (by rw [e1]; exact hz), fun q h1 h2 => by rw [e1, hk q (Nat.lt_of_lt_of_le h1 hS.1) (fun z => h2 (hA q z))]; exact hS.2.1 q h1 h2, fun q hq => by
      rcases List.mem_append.mp hq with h | h
      · exact hS.2.2 q h
      · exact hA _ (hL q h)⟩ T' rfl X'
  exact ⟨t2, st t2 a1, b1⟩
theorem pre_g (X : CX g A p s m args c cc nL own) (hS : va_S A s.heap H locs) (hP : WP g A1 w H) (hA : ∀ q, A1 q → A q) : PreS s H (Pst g A1 w As) As :=
  ⟨Pst.blind, fun U hU hW => ⟨rfl, by rw [hU]; exact hP, X.2.2.2.2.2.at hS hU hW hA⟩⟩
/-- an instance method of the class itself -/
theorem kV {r : Option Value} {ci k0 : Nat} {fs : List Value} {cq : vw_C} (X : CX g A p s m args c cc nL own) (hd : decode cc pc = .ok (.invokevirtual index, 3)) (hl : Cond.methodLink own index y ∈ gw) (hM : MW y bytes maxL n ret) (hi : Cond.instanceMethod y ∈ gw) (hs : Cond.selects C y y ∈ gw) (hP : WP g A1 w H) (hw : w[k0]? = some (b, .inr (ci, fs))) (hcq : vwCl[ci]? = some cq) (hcn : cq.1 = C) (hS : va_S A s.heap H locs) (hA : ∀ q, A1 q → A q) (hC : Std g l y (.code y bytes maxL ret :: gw) rm A1 (.ref b :: As) w w' r) (hn : As.length = n) (hsz : ls.size = nL) (hst : st = As.reverse ++ .ref b :: rest) (hro : (rest.map fun v => v.category).sum ≤ 8) (hrc : rm.cells = 0) (hrs : rm.slots = 0) (hR : rm.frames + 1 ≤ R.frames ∧ 8 + (maxL + 11) + rm.locals ≤ R.locals)
    (kk : ∀ (H1 : Heap) (locs1 : List Loc), WP g A1 w' H1 → H.size ≤ H1.size → (∀ q : Nat, q < H.size → ¬ A1 q → H1[q]? = H[q]?) → va_S A s.heap H1 locs1 → W p l e R s m args below meth c H1 locs1 0 0 Q (F0 m (pc + 3) ls (r.toList ++ rest))) : W p l e R s m args below meth c H locs 0 0 Q (F0 m pc ls st) := by
  subst hcn
  exact call_go (va_runV (fix_g X) hC ⟨callB_g X hM (X.2.2.2.2.1 _ hl) hrc hrs hR, X.2.2.2.2.1 _ hi, X.2.2.2.2.1 _ hs⟩ ⟨Pst.blind, va_recv X.2.2.2.2.2.2.1 hP.1 hcq hw, (pre_g X hS hP hA).2⟩ rfl hn hsz hst (lv_room hro) hd ⟨Nat.zero_le _, Nat.zero_le _⟩) hS hA kk
/-- an instance method of a nest mate -/
theorem kVN {r : Option Value} {ci k0 : Nat} {fs : List Value} {cq : vw_C} (X : CX g A p s m args c cc nL own) (hd : decode cc pc = .ok (.invokevirtual index, 3)) (hl : Cond.methodLinkNest own index y host ∈ nestW) (hM : MW y bytes maxL n ret) (hi : Cond.instanceMethod y ∈ gw) (hs : Cond.selects C y y ∈ gw) (hP : WP g A1 w H) (hw : w[k0]? = some (b, .inr (ci, fs))) (hcq : vwCl[ci]? = some cq) (hcn : cq.1 = C) (hS : va_S A s.heap H locs) (hA : ∀ q, A1 q → A q) (hC : Std g l y (.code y bytes maxL ret :: gw) rm A1 (.ref b :: As) w w' r) (hn : As.length = n) (hsz : ls.size = nL) (hst : st = As.reverse ++ .ref b :: rest) (hro : (rest.map fun v => v.category).sum ≤ 8) (hrc : rm.cells = 0) (hrs : rm.slots = 0) (hR : rm.frames + 1 ≤ R.frames ∧ 8 + (maxL + 11) + rm.locals ≤ R.locals)
    (kk : ∀ (H1 : Heap) (locs1 : List Loc), WP g A1 w' H1 → H.size ≤ H1.size → (∀ q : Nat, q < H.size → ¬ A1 q → H1[q]? = H[q]?) → va_S A s.heap H1 locs1 → W p l e R s m args below meth c H1 locs1 0 0 Q (F0 m (pc + 3) ls (r.toList ++ rest))) : W p l e R s m args below meth c H locs 0 0 Q (F0 m pc ls st) := by
  subst hcn
  exact call_go (va_runVN (fix_g X) hC ⟨callN_g X hM (X.2.2.2.2.2.2.2.1 _ hl) hrc hrs hR, X.2.2.2.2.1 _ hi, X.2.2.2.2.1 _ hs⟩ ⟨Pst.blind, va_recv X.2.2.2.2.2.2.1 hP.1 hcq hw, (pre_g X hS hP hA).2⟩ rfl hn hsz hst (lv_room hro) hd ⟨Nat.zero_le _, Nat.zero_le _⟩) hS hA kk
/-- a static method -/
theorem kS {r : Option Value} (X : CX g A p s m args c cc nL own) (hd : decode cc pc = .ok (.invokestatic index, 3)) (hl : Cond.methodLink own index y ∈ gw) (hM : MW y bytes maxL n ret) (hi : Cond.static y ∈ gw) (hP : WP g A1 w H) (hS : va_S A s.heap H locs) (hA : ∀ q, A1 q → A q) (hC : Std g l y (.code y bytes maxL ret :: gw) rm A1 As w w' r) (hn : As.length = n) (hsz : ls.size = nL) (hst : st = As.reverse ++ rest) (hro : (rest.map fun v => v.category).sum ≤ 8) (hrc : rm.cells = 0) (hrs : rm.slots = 0) (hR : rm.frames + 1 ≤ R.frames ∧ 8 + (maxL + 11) + rm.locals ≤ R.locals)
    (kk : ∀ (H1 : Heap) (locs1 : List Loc), WP g A1 w' H1 → H.size ≤ H1.size → (∀ q : Nat, q < H.size → ¬ A1 q → H1[q]? = H[q]?) → va_S A s.heap H1 locs1 → W p l e R s m args below meth c H1 locs1 0 0 Q (F0 m (pc + 3) ls (r.toList ++ rest))) : W p l e R s m args below meth c H locs 0 0 Q (F0 m pc ls st) :=
  call_go (va_runS (fix_g X) hC ⟨callB_g X hM (X.2.2.2.2.1 _ hl) hrc hrs hR, X.2.2.2.2.1 _ hi⟩ (pre_g X hS hP hA) rfl hn hsz hst (lv_room hro) hd ⟨Nat.zero_le _, Nat.zero_le _⟩) hS hA kk
/-- a static method of a nest mate -/
theorem kSN {r : Option Value} (X : CX g A p s m args c cc nL own) (hd : decode cc pc = .ok (.invokestatic index, 3)) (hl : Cond.methodLinkNest own index y host ∈ nestW) (hM : MW y bytes maxL n ret) (hi : Cond.static y ∈ gw) (hP : WP g A1 w H) (hS : va_S A s.heap H locs) (hA : ∀ q, A1 q → A q) (hC : Std g l y (.code y bytes maxL ret :: gw) rm A1 As w w' r) (hn : As.length = n) (hsz : ls.size = nL) (hst : st = As.reverse ++ rest) (hro : (rest.map fun v => v.category).sum ≤ 8) (hrc : rm.cells = 0) (hrs : rm.slots = 0) (hR : rm.frames + 1 ≤ R.frames ∧ 8 + (maxL + 11) + rm.locals ≤ R.locals)
    (kk : ∀ (H1 : Heap) (locs1 : List Loc), WP g A1 w' H1 → H.size ≤ H1.size → (∀ q : Nat, q < H.size → ¬ A1 q → H1[q]? = H[q]?) → va_S A s.heap H1 locs1 → W p l e R s m args below meth c H1 locs1 0 0 Q (F0 m (pc + 3) ls (r.toList ++ rest))) : W p l e R s m args below meth c H locs 0 0 Q (F0 m pc ls st) :=
  call_go (va_runSN (fix_g X) hC ⟨callN_g X hM (X.2.2.2.2.2.2.2.1 _ hl) hrc hrs hR, X.2.2.2.2.1 _ hi, trivial⟩ (pre_g X hS hP hA) rfl hn hsz hst (lv_room hro) hd ⟨Nat.zero_le _, Nat.zero_le _⟩) hS hA kk
/-- a flag tested -/
theorem rb_eq {x : Bool} {off : Int} {tgt : Nat} (hx : p.tables.exec = Jvm.exec) (hb : c.code = cc) (hd : decode cc pc = .ok (.ifCond .eq off, 3)) (ht : (pc : Int) + off = (tgt : Int)) (kt : ¬ x = true → W p l e R s m args below meth c H locs 0 0 Q (F0 m tgt ls rest)) (kf : x = true → W p l e R s m args below meth c H locs 0 0 Q (F0 m (pc + 3) ls rest)) : W p l e R s m args below meth c H locs 0 0 Q (F0 m pc ls (.int (bI x) :: rest)) :=
  lv_if_eq hx hb hd ht (fun h => kt (by rw [bI_0 h]; decide)) (fun h => kf (bI_n0 h))
theorem rb_ne {x : Bool} {off : Int} {tgt : Nat} (hx : p.tables.exec = Jvm.exec) (hb : c.code = cc) (hd : decode cc pc = .ok (.ifCond .ne off, 3)) (ht : (pc : Int) + off = (tgt : Int)) (kt : x = true → W p l e R s m args below meth c H locs 0 0 Q (F0 m tgt ls rest)) (kf : ¬ x = true → W p l e R s m args below meth c H locs 0 0 Q (F0 m (pc + 3) ls rest)) : W p l e R s m args below meth c H locs 0 0 Q (F0 m pc ls (.int (bI x) :: rest)) :=
  lv_if_ne hx hb hd ht (fun h => kt (bI_n0 h)) (fun h => kf (by rw [bI_0 h]; decide))
/-- two longs compared, and the branch behind it -/
theorem rl_lt {x z : Int64} {off : Int} {tgt : Nat} (hx : p.tables.exec = Jvm.exec) (hb : c.code = cc) (h0 : decode cc pc = .ok (.lcmp, 1)) (hd : decode cc (pc + 1) = .ok (.ifCond .lt off, 3)) (ht : ((pc + 1 : Nat) : Int) + off = (tgt : Int)) (kt : x < z → W p l e R s m args below meth c H locs 0 0 Q (F0 m tgt ls rest)) (kf : ¬ x < z → W p l e R s m args below meth c H locs 0 0 Q (F0 m (pc + 1 + 3) ls rest)) : W p l e R s m args below meth c H locs 0 0 Q (F0 m pc ls (.long z :: .long x :: rest)) :=
  W.lcmp hx hb h0 (lv_if_lt hx hb hd ht (fun h => kt ((lg_cmp_lt x z).mp h)) (fun h => kf (fun k => h ((lg_cmp_lt x z).mpr k))))
theorem rl_ge {x z : Int64} {off : Int} {tgt : Nat} (hx : p.tables.exec = Jvm.exec) (hb : c.code = cc) (h0 : decode cc pc = .ok (.lcmp, 1)) (hd : decode cc (pc + 1) = .ok (.ifCond .ge off, 3)) (ht : ((pc + 1 : Nat) : Int) + off = (tgt : Int)) (kt : z ≤ x → W p l e R s m args below meth c H locs 0 0 Q (F0 m tgt ls rest)) (kf : ¬ z ≤ x → W p l e R s m args below meth c H locs 0 0 Q (F0 m (pc + 1 + 3) ls rest)) : W p l e R s m args below meth c H locs 0 0 Q (F0 m pc ls (.long z :: .long x :: rest)) :=
  W.lcmp hx hb h0 (lv_if_ge hx hb hd ht (fun h => kt ((lg_cmp_ge x z).mp h)) (fun h => kf (fun k => h ((lg_cmp_ge x z).mpr k))))
theorem rl_gt {x z : Int64} {off : Int} {tgt : Nat} (hx : p.tables.exec = Jvm.exec) (hb : c.code = cc) (h0 : decode cc pc = .ok (.lcmp, 1)) (hd : decode cc (pc + 1) = .ok (.ifCond .gt off, 3)) (ht : ((pc + 1 : Nat) : Int) + off = (tgt : Int)) (kt : z < x → W p l e R s m args below meth c H locs 0 0 Q (F0 m tgt ls rest)) (kf : ¬ z < x → W p l e R s m args below meth c H locs 0 0 Q (F0 m (pc + 1 + 3) ls rest)) : W p l e R s m args below meth c H locs 0 0 Q (F0 m pc ls (.long z :: .long x :: rest)) :=
  W.lcmp hx hb h0 (lv_if_gt hx hb hd ht (fun h => kt ((lg_cmp_gt x z).mp h)) (fun h => kf (fun k => h ((lg_cmp_gt x z).mpr k))))
theorem rl_le {x z : Int64} {off : Int} {tgt : Nat} (hx : p.tables.exec = Jvm.exec) (hb : c.code = cc) (h0 : decode cc pc = .ok (.lcmp, 1)) (hd : decode cc (pc + 1) = .ok (.ifCond .le off, 3)) (ht : ((pc + 1 : Nat) : Int) + off = (tgt : Int)) (kt : x ≤ z → W p l e R s m args below meth c H locs 0 0 Q (F0 m tgt ls rest)) (kf : ¬ x ≤ z → W p l e R s m args below meth c H locs 0 0 Q (F0 m (pc + 1 + 3) ls rest)) : W p l e R s m args below meth c H locs 0 0 Q (F0 m pc ls (.long z :: .long x :: rest)) :=
  W.lcmp hx hb h0 (lv_if_le hx hb hd ht (fun h => kt ((lg_cmp_le x z).mp h)) (fun h => kf (fun k => h ((lg_cmp_le x z).mpr k))))
theorem rl_eq {x z : Int64} {off : Int} {tgt : Nat} (hx : p.tables.exec = Jvm.exec) (hb : c.code = cc) (h0 : decode cc pc = .ok (.lcmp, 1)) (hd : decode cc (pc + 1) = .ok (.ifCond .eq off, 3)) (ht : ((pc + 1 : Nat) : Int) + off = (tgt : Int)) (kt : x = z → W p l e R s m args below meth c H locs 0 0 Q (F0 m tgt ls rest)) (kf : ¬ x = z → W p l e R s m args below meth c H locs 0 0 Q (F0 m (pc + 1 + 3) ls rest)) : W p l e R s m args below meth c H locs 0 0 Q (F0 m pc ls (.long z :: .long x :: rest)) :=
  W.lcmp hx hb h0 (lv_if_eq hx hb hd ht (fun h => kt ((lg_cmp_eq x z).mp h)) (fun h => kf (fun k => h ((lg_cmp_eq x z).mpr k))))
theorem rl_ne {x z : Int64} {off : Int} {tgt : Nat} (hx : p.tables.exec = Jvm.exec) (hb : c.code = cc) (h0 : decode cc pc = .ok (.lcmp, 1)) (hd : decode cc (pc + 1) = .ok (.ifCond .ne off, 3)) (ht : ((pc + 1 : Nat) : Int) + off = (tgt : Int)) (kt : ¬ x = z → W p l e R s m args below meth c H locs 0 0 Q (F0 m tgt ls rest)) (kf : x = z → W p l e R s m args below meth c H locs 0 0 Q (F0 m (pc + 1 + 3) ls rest)) : W p l e R s m args below meth c H locs 0 0 Q (F0 m pc ls (.long z :: .long x :: rest)) :=
  W.lcmp hx hb h0 (lv_if_ne hx hb hd ht (fun h => kt (fun k => h ((lg_cmp_eq x z).mpr k))) (fun h => kf ((lg_cmp_eq x z).mp h)))
end BaseCalls

/-! a part of a world, and back -/
def inA (w : va_W) : Nat → Prop := fun a => ∃ (k : Nat) (e : va_E), w[k]? = some (a, e)
theorem fo_of {g : gT} {A : Nat → Prop} {big small : va_W} {H : Heap} (is : List Nat) (hn : va_nd is = true) (hs : is.map (fun i => big[i]?) = small.map some) (hP : WP g A big H) : WP g (inA small) small H ∧ ∀ a, inA small a → A a := by
  have hf : is.filterMap (fun i => big[i]?) = small := by
    have h1 : is.filterMap (fun i => big[i]?) = (is.map (fun i => big[i]?)).filterMap id := by rw [List.filterMap_map]; rfl
    rw [h1, hs, List.filterMap_map]
    simp
  have h2 := hP.1.sub is hf
  have h3 := hP.2.sub is hn hs
  refine ⟨⟨h2, h3.1, fun k q hk => ⟨k, q.2, hk⟩⟩, fun a ha => ?_⟩
  obtain ⟨k, e, hk⟩ := ha
  exact h3.2 k _ hk
theorem at_lt {D : va_G} {cl : List vw_C} {q : Nat × va_E} {H : Heap} (h : va_at D cl q H) : ∃ c, H[q.1]? = some c := by
  obtain ⟨a, e⟩ := q
  cases e with
  | inl x => exact ⟨_, h⟩
  | inr x =>
    obtain ⟨r, -, cell, h1, -⟩ := h
    exact ⟨cell, h1⟩
theorem un_of {g : gT} {A : Nat → Prop} {big big' small small' : va_W} {H H1 : Heap} (is js : List Nat) (n : Nat) (hs : is.map (fun i => big[i]?) = small.map some) (hs' : is.map (fun i => big'[i]?) = small'.map some) (hr : js.map (fun i => big'[i]?) = js.map (fun i => big[i]?)) (hl : big'.length = n) (hc : ∀ i, i < n → i ∈ is ∨ i ∈ js) (hd : ∀ i ∈ js, i ∉ is) (hm : big'.map Prod.fst = big.map Prod.fst) (hP : WP g A big H) (hk : ∀ q : Nat, q < H.size → ¬ inA small q → H1[q]? = H[q]?) (hU : WP g (inA small) small' H1) : WP g A big' H1 := by
  have hfst : ∀ (k : Nat) (q : Nat × va_E), big'[k]? = some q → ∃ q0, big[k]? = some q0 ∧ q0.1 = q.1 := fun k q h => by
    have h1 : (big'.map Prod.fst)[k]? = some q.1 := by rw [List.getElem?_map, h]; rfl
    rw [hm, List.getElem?_map] at h1
    cases hb : big[k]? with
    | none => rw [hb] at h1; cases h1
    | some q0 => rw [hb] at h1; exact ⟨q0, rfl, Option.some.inj h1⟩
  refine ⟨fun k q hq => ?_, fun i j p q hp hq he => ?_, fun k q hq => ?_⟩
  · have hkn : k < n := by rw [← hl]; exact (List.getElem?_eq_some_iff.mp hq).1
    rcases hc k hkn with hi | hj
    · obtain ⟨j, hj⟩ := List.getElem?_of_mem hi
      have h1 : (is.map (fun i => big'[i]?))[j]? = some (big'[k]?) := by rw [List.getElem?_map, hj]; rfl
      rw [hs', hq, List.getElem?_map] at h1
      cases hb : small'[j]? with
      | none => rw [hb] at h1; cases h1
      | some q0 =>
        rw [hb] at h1
        have e1 : q0 = q := Option.some.inj (Option.some.inj h1)
        rw [← e1]
        exact hU.1 j q0 hb
    · obtain ⟨j, hj2⟩ := List.getElem?_of_mem hj
      have h1 : (js.map (fun i => big'[i]?))[j]? = some (big'[k]?) := by rw [List.getElem?_map, hj2]; rfl
      rw [hr, List.getElem?_map, hj2] at h1
      have h2 : big[k]? = some q := (Option.some.inj h1).trans hq
      have h3 := hP.1 k q h2
      refine h3.kept (hk q.1 ?_ ?_)
      · obtain ⟨c, hc⟩ := at_lt h3
        exact (Array.getElem?_eq_some_iff.mp hc).1
      · intro ⟨a, e, ha⟩
        have h4 : (small.map some)[a]? = some (some (q.1, e)) := by rw [List.getElem?_map, ha]; rfl
        rw [← hs, List.getElem?_map] at h4
        cases hb : is[a]? with
        | none => rw [hb] at h4; cases h4
        | some i =>
          rw [hb] at h4
          have h5 : big[i]? = some (q.1, e) := Option.some.inj h4
          have h6 : k = i := hP.2.1 k i q (q.1, e) h2 h5 rfl
          exact hd k hj (by rw [h6]; exact List.mem_of_getElem? hb)
  · obtain ⟨p0, hp0, e1⟩ := hfst i p hp
    obtain ⟨q0, hq0, e2⟩ := hfst j q hq
    exact hP.2.1 i j p0 q0 hp0 hq0 (by rw [e1, e2]; exact he)
  · obtain ⟨q0, hq0, e2⟩ := hfst k q hq
    rw [← e2]
    exact hP.2.2 k q0 hq0
