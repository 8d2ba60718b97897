/-! THE ABSTRACT MACHINE: a memory of numbers, a fixed layout of cells, and what one instruction asks of what comes behind it -/
abbrev Mem : Type := (Nat → Nat → Int32) × (Nat → Nat → Int64) × Nat × Nat
def gI (σ : Mem) (k j : Nat) : Int32 := σ.1 k j
def gL (σ : Mem) (k j : Nat) : Int64 := σ.2.1 k j
def sI (σ : Mem) (k j : Nat) (v : Int32) : Mem := (fun a b => if a = k ∧ b = j then v else σ.1 a b, σ.2)
def sL (σ : Mem) (k j : Nat) (v : Int64) : Mem := (σ.1, fun a b => if a = k ∧ b = j then v else σ.2.1 a b, σ.2.2)
def gP (σ : Mem) : Nat := σ.2.2.1
def gQ (σ : Mem) : Nat := σ.2.2.2
def sP (σ : Mem) (v : Nat) : Mem := (σ.1, σ.2.1, v, σ.2.2.2)
def sQ (σ : Mem) (v : Nat) : Mem := (σ.1, σ.2.1, σ.2.2.1, v)
/-- a cell of the layout: an array (0 ints, 1 booleans, 2 longs; its length), or an object (number of its kind, its fields: 0 int, 1 long, 2 a fixed cell, 3 the latest, 4 the one ahead) -/
abbrev LC : Type := (Nat × Nat) ⊕ (Nat × List (Nat × Nat))
abbrev Lv : Type := List (Option Value)
abbrev SP : Type := List Value → Mem → (Option Value → Mem → Prop) → Prop
/-- pc, number of the next, instruction, its length, kind of the object, field or target, constant, a switch's rows -/
abbrev Ent : Type := Nat × Nat × Instr × Nat × Nat × Nat × Int32 × List (Int32 × Nat)
abbrev Cs : Type := List (Nat × Nat × Bool × SP)
abbrev Ro : Type := List (Nat × Nat × (Nat → Int32))
def nth {α : Type} : List α → Nat → Option α
  | [], _ => none
  | a :: _, 0 => some a
  | _ :: l, n + 1 => nth l n
def fnd {α : Type} : List (Nat × α) → Nat → Option α
  | [], _ => none
  | (k, a) :: l, i => bif Nat.beq k i then some a else fnd l i
def inC : List Nat → Nat → Bool
  | [], _ => false
  | a :: l, i => bif Nat.beq a i then true else inC l i
/-- the locals, by their places -/
def lvG (lv : Lv) (i : Nat) : Option Value := match nth lv i with
  | some (some v) => some v
  | _ => none
def clr : Option Value → Option Value
  | some (.long _) => none
  | some (.double _) => none
  | v => v
def lvS : Lv → Nat → Value → Lv
  | [], _, _ => []
  | _ :: r, 0, v => some v :: r
  | a :: r, i + 1, v => (bif Nat.beq i 0 then clr a else a) :: lvS r i v
def lvS2 : Lv → Nat → Value → Lv
  | [], _, _ => []
  | _ :: r, 0, v => some v :: (match r with
    | [] => []
    | _ :: r => none :: r)
  | a :: r, i + 1, v => (bif Nat.beq i 0 then clr a else a) :: lvS2 r i v
def entL : List Value → Lv
  | [] => []
  | .long x :: vs => some (.long x) :: none :: entL vs
  | .double x :: vs => some (.double x) :: none :: entL vs
  | v :: vs => some v :: entL vs
def padL : Nat → Lv → Lv
  | 0, _ => []
  | n + 1, [] => none :: padL n []
  | n + 1, a :: r => a :: padL n r
def rI (i : Int32) : Nat := i.toNatClampNeg
/-- the layout: 0 .. 41 the class's, 42 .. 71 the reference's -/
def lay : List LC := [
  .inr (8, [(2, 1), (2, 4), (2, 9), (2, 13), (2, 17), (2, 21), (2, 28), (2, 29), (3, 0), (4, 0), (0, 0), (0, 0), (0, 0)]),
  .inr (7, [(2, 2), (2, 3), (0, 0)]), .inl (0, 30), .inl (0, 30),
  .inr (5, [(2, 5), (2, 6), (2, 7), (2, 8), (0, 0)]), .inl (0, 240), .inl (0, 240), .inl (0, 240), .inl (0, 240),
  .inr (1, [(2, 10), (2, 11), (2, 12), (0, 0)]), .inl (0, 20), .inl (0, 20), .inl (0, 20),
  .inr (2, [(2, 14), (2, 15), (2, 16), (0, 0)]), .inl (0, 20), .inl (0, 20), .inl (0, 20),
  .inr (6, [(2, 18), (2, 19), (2, 20)]), .inl (0, 4), .inl (0, 4), .inl (0, 160),
  .inr (4, [(2, 22), (2, 23), (2, 24), (2, 25), (0, 0), (2, 26), (0, 0), (2, 27)]), .inl (0, 240), .inl (0, 240), .inl (0, 240), .inl (1, 240), .inl (0, 240), .inl (0, 30),
  .inr (3, [(0, 0), (1, 0), (1, 0), (1, 0), (1, 0), (1, 0), (1, 0), (1, 0), (1, 0), (1, 0), (1, 0), (1, 0), (1, 0), (1, 0)]),
  .inl (0, 4),
  .inr (0, [(0, 0), (2, 31), (2, 32), (2, 33), (2, 34), (2, 35)]), .inl (0, 241), .inl (0, 240), .inl (0, 240), .inl (0, 240), .inl (0, 240),
  .inr (0, [(0, 0), (2, 37), (2, 38), (2, 39), (2, 40), (2, 41)]), .inl (0, 241), .inl (0, 240), .inl (0, 240), .inl (0, 240), .inl (0, 240),
  .inr (9, [(0, 0), (0, 0), (0, 0), (2, 43), (2, 44), (0, 0), (2, 45), (2, 46), (2, 47), (2, 48), (0, 0), (2, 49), (2, 50), (2, 51), (0, 0), (2, 52), (2, 53), (2, 54), (2, 55), (2, 56), (2, 57), (2, 58), (0, 0), (2, 59), (2, 60), (2, 61), (0, 0), (2, 62), (2, 63), (2, 64), (0, 0), (0, 0), (2, 65), (2, 66), (2, 67), (2, 68), (0, 0), (2, 69), (2, 70), (2, 71)]),
  .inl (0, 30), .inl (0, 30), .inl (0, 240), .inl (0, 240), .inl (0, 240), .inl (0, 240), .inl (0, 20), .inl (0, 20), .inl (0, 20), .inl (0, 20), .inl (0, 20), .inl (0, 20), .inl (0, 4), .inl (0, 4), .inl (0, 160), .inl (0, 4), .inl (0, 240), .inl (0, 240), .inl (0, 240), .inl (0, 240), .inl (0, 240), .inl (0, 30), .inl (0, 241), .inl (0, 240), .inl (0, 240), .inl (0, 240), .inl (0, 241), .inl (0, 240), .inl (2, 4)]
def swA (nx : Nat → Prop) (x : Int32) (d : Nat) : List (Int32 × Nat) → Prop
  | [] => nx d
  | (v, t) :: r => (x = v → nx t) ∧ (¬ x = v → swA nx x d r)
/-- what one instruction asks: 'nx' is what is asked behind it -/
def wstep (pg : List Ent) (ro : Ro) (cs : Cs) (lcs : List (Nat × Int64)) (zr : Bool) (Q : Option Value → Mem → Prop) (nx : Nat → Lv → List Value → Mem → Prop) (k : Nat) (lv : Lv) (st : List Value) (σ : Mem) : Prop :=
  match nth pg k with
  | none => False
  | some (_, nn, ins, _, ci, j, w, sw) =>
    match ins with
    | .iconst _ => nx nn lv (.int w :: st) σ
    | .bipush _ => nx nn lv (.int w :: st) σ
    | .sipush _ => nx nn lv (.int w :: st) σ
    | .lconst i => nx nn lv (.long (Int64.ofNat i.val) :: st) σ
    | .ldc2_w i => match fnd lcs i with
      | some v => nx nn lv (.long v :: st) σ
      | none => False
    | .iload_n i => match lvG lv i.val with
      | some (.int x) => nx nn lv (.int x :: st) σ
      | _ => False
    | .iload i => match lvG lv i with
      | some (.int x) => nx nn lv (.int x :: st) σ
      | _ => False
    | .lload_n i => match lvG lv i.val with
      | some (.long x) => nx nn lv (.long x :: st) σ
      | _ => False
    | .lload i => match lvG lv i with
      | some (.long x) => nx nn lv (.long x :: st) σ
      | _ => False
    | .aload_n i => match lvG lv i.val with
      | some (.ref x) => nx nn lv (.ref x :: st) σ
      | _ => False
    | .aload i => match lvG lv i with
      | some (.ref x) => nx nn lv (.ref x :: st) σ
      | _ => False
    | .istore_n i => match st with
      | .int x :: st => nx nn (lvS lv i.val (.int x)) st σ
      | _ => False
    | .istore i => match st with
      | .int x :: st => nx nn (lvS lv i (.int x)) st σ
      | _ => False
    | .astore_n i => match st with
      | .ref x :: st => nx nn (lvS lv i.val (.ref x)) st σ
      | _ => False
    | .lstore_n i => match st with
      | .long x :: st => nx nn (lvS2 lv i.val (.long x)) st σ
      | _ => False
    | .lstore i => match st with
      | .long x :: st => nx nn (lvS2 lv i (.long x)) st σ
      | _ => False
    | .iinc i _ => match lvG lv i with
      | some (.int x) => nx nn (lvS lv i (.int (x + w))) st σ
      | _ => False
    | .iadd => match st with
      | .int y :: .int x :: st => nx nn lv (.int (x + y) :: st) σ
      | _ => False
    | .isub => match st with
      | .int y :: .int x :: st => nx nn lv (.int (x - y) :: st) σ
      | _ => False
    | .imul => match st with
      | .int y :: .int x :: st => nx nn lv (.int (x * y) :: st) σ
      | _ => False
    | .iand => match st with
      | .int y :: .int x :: st => nx nn lv (.int (x &&& y) :: st) σ
      | _ => False
    | .ineg => match st with
      | .int x :: st => nx nn lv (.int (-x) :: st) σ
      | _ => False
    | .ladd => match st with
      | .long y :: .long x :: st => nx nn lv (.long (x + y) :: st) σ
      | _ => False
    | .lsub => match st with
      | .long y :: .long x :: st => nx nn lv (.long (x - y) :: st) σ
      | _ => False
    | .lmul => match st with
      | .long y :: .long x :: st => nx nn lv (.long (x * y) :: st) σ
      | _ => False
    | .lneg => match st with
      | .long x :: st => nx nn lv (.long (-x) :: st) σ
      | _ => False
    | .lcmp => match st with
      | .long y :: .long x :: st => nx nn lv (.int (lg_cmp x y) :: st) σ
      | _ => False
    | .i2l => match st with
      | .int x :: st => nx nn lv (.long x.toInt64 :: st) σ
      | _ => False
    | .i2b => match st with
      | .int x :: st => nx nn lv (.int x.toInt8.toInt32 :: st) σ
      | _ => False
    | .i2s => match st with
      | .int x :: st => nx nn lv (.int x.toInt16.toInt32 :: st) σ
      | _ => False
    | .dup => match st with
      | .int x :: st => nx nn lv (.int x :: .int x :: st) σ
      | .ref x :: st => nx nn lv (.ref x :: .ref x :: st) σ
      | _ => False
    | .pop => match st with
      | .int _ :: st => nx nn lv st σ
      | _ => False
    | .dup_x1 => match st with
      | .int x :: .ref y :: st => nx nn lv (.int x :: .ref y :: .int x :: st) σ
      | _ => False
    | .dup2 => match st with
      | .int x :: .ref y :: st => nx nn lv (.int x :: .ref y :: .int x :: .ref y :: st) σ
      | _ => False
    | .goto _ => nx j lv st σ
    | .ifCond c _ => match st with
      | .int x :: st => match c with
        | .eq => (x = 0 → nx j lv st σ) ∧ (¬ x = 0 → nx nn lv st σ)
        | .ne => (x = 0 → nx nn lv st σ) ∧ (¬ x = 0 → nx j lv st σ)
        | .lt => (x < 0 → nx j lv st σ) ∧ (¬ x < 0 → nx nn lv st σ)
        | .ge => (0 ≤ x → nx j lv st σ) ∧ (¬ 0 ≤ x → nx nn lv st σ)
        | .gt => (0 < x → nx j lv st σ) ∧ (¬ 0 < x → nx nn lv st σ)
        | .le => (x ≤ 0 → nx j lv st σ) ∧ (¬ x ≤ 0 → nx nn lv st σ)
      | _ => False
    | .if_icmp c _ => match st with
      | .int y :: .int x :: st => match c with
        | .eq => (x = y → nx j lv st σ) ∧ (¬ x = y → nx nn lv st σ)
        | .ne => (x = y → nx nn lv st σ) ∧ (¬ x = y → nx j lv st σ)
        | .lt => (x < y → nx j lv st σ) ∧ (¬ x < y → nx nn lv st σ)
        | .ge => (y ≤ x → nx j lv st σ) ∧ (¬ y ≤ x → nx nn lv st σ)
        | .gt => (y < x → nx j lv st σ) ∧ (¬ y < x → nx nn lv st σ)
        | .le => (x ≤ y → nx j lv st σ) ∧ (¬ x ≤ y → nx nn lv st σ)
      | _ => False
    | .tableswitch _ _ _ _ => match st with
      | .int x :: st => swA (fun t => nx t lv st σ) x j sw
      | _ => False
    | .lookupswitch _ _ => match st with
      | .int x :: st => swA (fun t => nx t lv st σ) x j sw
      | _ => False
    | .getstatic _ => nx nn lv (.ref j :: st) σ
    | .getfield _ => match st with
      | .ref a :: st => match nth lay a with
        | some (.inr (cj, fds)) => bif Nat.beq ci cj then (match nth fds j with
            | some (0, _) => nx nn lv (.int (gI σ a j) :: st) σ
            | some (1, _) => nx nn lv (.long (gL σ a j) :: st) σ
            | some (2, t) => nx nn lv (.ref t :: st) σ
            | some (3, _) => nx nn lv (.ref (gP σ) :: st) σ
            | some (4, _) => nx nn lv (.ref (gQ σ) :: st) σ
            | _ => False) else False
        | _ => False
      | _ => False
    | .putfield _ => match st with
      | v :: .ref a :: st => match nth lay a with
        | some (.inr (cj, fds)) => bif Nat.beq ci cj then (match nth fds j, v with
            | some (0, _), .int x => nx nn lv st (sI σ a j x)
            | some (1, _), .long x => nx nn lv st (sL σ a j x)
            | some (3, _), .ref x => nx nn lv st (sP σ x)
            | some (4, _), .ref x => nx nn lv st (sQ σ x)
            | _, _ => False) else False
        | _ => False
      | _ => False
    | .iaload => match st with
      | .int i :: .ref a :: st => match nth lay a with
        | some (.inl (0, len)) => vp_in i len ∧ nx nn lv (.int (gI σ a (rI i)) :: st) σ
        | none => (match fnd ro a with
          | some (len, f) => vp_in i len ∧ nx nn lv (.int (f (rI i)) :: st) σ
          | none => False)
        | _ => False
      | _ => False
    | .baload => match st with
      | .int i :: .ref a :: st => match nth lay a with
        | some (.inl (1, len)) => vp_in i len ∧ nx nn lv (.int (gI σ a (rI i)) :: st) σ
        | _ => False
      | _ => False
    | .laload => match st with
      | .int i :: .ref a :: st => match nth lay a with
        | some (.inl (2, len)) => vp_in i len ∧ nx nn lv (.long (gL σ a (rI i)) :: st) σ
        | _ => False
      | _ => False
    | .iastore => match st with
      | .int x :: .int i :: .ref a :: st => match nth lay a with
        | some (.inl (0, len)) => vp_in i len ∧ nx nn lv st (sI σ a (rI i) x)
        | _ => False
      | _ => False
    | .bastore => match st with
      | .int x :: .int i :: .ref a :: st => match nth lay a with
        | some (.inl (1, len)) => vp_in i len ∧ nx nn lv st (sI σ a (rI i) (vp_nar .boolean x))
        | _ => False
      | _ => False
    | .lastore => match st with
      | .long x :: .int i :: .ref a :: st => match nth lay a with
        | some (.inl (2, len)) => vp_in i len ∧ nx nn lv st (sL σ a (rI i) x)
        | _ => False
      | _ => False
    | .arraylength => match st with
      | .ref a :: st => match nth lay a with
        | some (.inl (0, len)) => nx nn lv (.int (nI len) :: st) σ
        | none => (match fnd ro a with
          | some (len, _) => nx nn lv (.int (nI len) :: st) σ
          | none => False)
        | _ => False
      | _ => False
    | .invokevirtual i => match fnd cs i with
      | some (n, true, sp) => match st.drop n with
        | .ref b :: rest => ((rest.map fun v => v.category).sum ≤ 8) ∧ sp (.ref b :: (st.take n).reverse) σ (fun v σ' => nx nn lv (v.toList ++ rest) σ')
        | _ => False
      | _ => False
    | .invokestatic i => match fnd cs i with
      | some (n, false, sp) => n ≤ st.length ∧ (((st.drop n).map fun v => v.category).sum ≤ 8) ∧ sp (st.take n).reverse σ (fun v σ' => nx nn lv (v.toList ++ st.drop n) σ')
      | _ => False
    | .ireturn => match st with
      | [.int v] => bif zr then (v = 0 ∨ v = 1) ∧ Q (some (.int v)) σ else Q (some (.int v)) σ
      | _ => False
    | .lreturn => match st with
      | [.long v] => Q (some (.long v)) σ
      | _ => False
    | .return_ => match st with
      | [] => Q none σ
      | _ => False
    | _ => False
def wps (pg : List Ent) (ro : Ro) (cs : Cs) (lcs : List (Nat × Int64)) (zr : Bool) (cut : List Nat) (Ok : Nat → Lv → List Value → Mem → Prop) (Q : Option Value → Mem → Prop) : Nat → Nat → Lv → List Value → Mem → Prop
  | 0, _, _, _, _ => False
  | n + 1, k, lv, st, σ => wstep pg ro cs lcs zr Q (fun k lv st σ => bif inC cut k then Ok k lv st σ else wps pg ro cs lcs zr cut Ok Q n k lv st σ) k lv st σ
/-- a method's body, in words of numbers alone: from its start it comes to its end with K, in any judgement 'Ok' that steps as the machine does -/
def Body (nL : Nat) (pg : List Ent) (ro : Ro) (cs : Cs) (lcs : List (Nat × Int64)) (zr : Bool) (sp : SP) : Prop :=
  ∀ (vs : List Value) (σ : Mem) (K : Option Value → Mem → Prop), sp vs σ K → ∀ (Ok : Nat → Lv → List Value → Mem → Prop), (∀ (cut : List Nat) (n k : Nat) (lv : Lv) (st : List Value) (σ : Mem), wps pg ro cs lcs zr cut Ok K n k lv st σ → Ok k lv st σ) → Ok 0 (padL nL (entL vs)) [] σ
