/-! THE SMALL MACHINE: values are integers, the heap is a list of shapes (with the references in them) and one function for all numbers. Every method of the claim becomes a function over it. -/
abbrev AV : Type := Int ⊕ Int ⊕ Nat ⊕ Nat ⊕ Unit
abbrev vI (z : Int) : AV := Sum.inl z
abbrev vL (z : Int) : AV := Sum.inr (Sum.inl z)
abbrev vR (k : Nat) : AV := Sum.inr (Sum.inr (Sum.inl k))
abbrev vO (j : Nat) : AV := Sum.inr (Sum.inr (Sum.inr (Sum.inl j)))
abbrev vN : AV := Sum.inr (Sum.inr (Sum.inr (Sum.inr ())))
/-- kind (0..8 an object of that class, 9 int[], 10 byte[], 11 boolean[], 12 Sleeper[], 13 State[], 14 int[][]), how many places, the references in them -/
abbrev Sh : Type := Nat × Nat × (Nat → Option Nat)
abbrev Hp : Type := List Sh × (Nat → Int → Int)
abbrev St : Type := List AV × List (Option AV) × Hp
def n32 (z : Int) : Int := (z + 2147483648) % 4294967296 - 2147483648
def n64 (z : Int) : Int := (z + 9223372036854775808) % 18446744073709551616 - 9223372036854775808
theorem n32_id {z : Int} (h0 : -2147483648 ≤ z) (h1 : z < 2147483648) : n32 z = z := by unfold n32; omega
theorem n64_id {z : Int} (h0 : -9223372036854775808 ≤ z) (h1 : z < 9223372036854775808) : n64 z = z := by unfold n64; omega
theorem n32_lo (z : Int) : -2147483648 ≤ n32 z := by unfold n32; omega
theorem n32_hi (z : Int) : n32 z < 2147483648 := by unfold n32; omega
theorem n64_lo (z : Int) : -9223372036854775808 ≤ n64 z := by unfold n64; omega
theorem n64_hi (z : Int) : n64 z < 9223372036854775808 := by unfold n64; omega
theorem n32_n32 (z : Int) : n32 (n32 z) = n32 z := n32_id (n32_lo z) (n32_hi z)
def um (M : Nat → Int → Int) (a : Nat) (i v : Int) : Nat → Int → Int := fun a' i' => if a' = a ∧ i' = i then v else M a' i'
def uf (f : Nat → Option Nat) (k : Nat) (v : Option Nat) : Nat → Option Nat := fun j => if j = k then v else f j
def zm (M : Nat → Int → Int) (lo : Nat) : Nat → Int → Int := fun a i => if lo ≤ a then 0 else M a i
def cpm (M : Nat → Int → Int) (a d : Nat) (sp dp n : Int) : Nat → Int → Int := fun a' k => if a' = d ∧ dp ≤ k ∧ k < dp + n then M a (sp + (k - dp)) else M a' k
def rfv (r : Option Nat) : AV := match r with
  | some k => vR k
  | none => vN
/-- the type of a field: 0 a number, 1 a long, 2 a reference, 3 a truth value -/
def ftc (d : String) : Nat := if d = "I" then 0 else if d = "J" then 1 else if d = "Z" then 3 else 2
def clT (c : Nat) : u_T := match c with
  | 0 => TX0
  | 1 => TX1
  | 2 => TX2
  | 3 => TX3
  | 4 => TX4
  | 5 => TX5
  | 6 => TX6
  | 7 => TX7
  | _ => TX8
def clN (c : Nat) : Nat := match c with
  | 0 => 5
  | 1 => 9
  | 2 => 3
  | 3 => 3
  | 4 => 7
  | 5 => 1
  | 6 => 4
  | 7 => 9
  | _ => 26
def clS (c : Nat) : String := match c with
  | 0 => RX0
  | 1 => RX1
  | 2 => RX2
  | 3 => RX3
  | 4 => RX4
  | 5 => RX5
  | 6 => RX6
  | 7 => RX7
  | 8 => RX8
  | 9 => RL
  | 10 => RJ6
  | 11 => RJ9
  | 12 => RJ7
  | 13 => RJ0
  | 14 => RJ1
  | _ => RJ3
/-- field types, as numbers (held against the descriptors below) -/
def fT (c k : Nat) : Nat := match c with
  | 0 => (match k with | 0 => 2 | 4 => 2 | _ => 0)
  | 1 => (match k with | 6 => 2 | 7 => 2 | _ => 0)
  | 2 => (match k with | 2 => 3 | _ => 0)
  | 3 => (match k with | 0 => 0 | _ => 2)
  | 4 => (match k with | 1 => 2 | 2 => 2 | _ => 0)
  | 5 => 2
  | 6 => 2
  | 7 => (match k with | 7 => 1 | 8 => 1 | _ => 2)
  | _ => (match k with | 0 => 2 | 1 => 2 | 2 => 2 | 3 => 0 | 4 => 2 | 5 => 1 | 6 => 1 | 7 => 0 | 8 => 0 | 9 => 3 | 10 => 3 | 11 => 0 | 12 => 0 | 13 => 2 | 14 => 2 | 15 => 2 | 16 => 2 | 17 => 0 | 18 => 0 | 19 => 0 | 20 => 0 | 21 => 0 | 22 => 2 | 23 => 2 | 24 => 2 | _ => 1)
theorem fT_ok : ∀ c, c < 9 → ∀ k, k < clN c → fT c k = ftc (clT c k).2.2.1 := by decide +kernel
/-- what is only read: 0 the script, 1 MOST_OF_TRAIT, 2 NUMBERS_OF, 11 to 18 the letters of the eight words -/
def roL (S : List Int) (j : Nat) : List Int := match j with
  | 0 => S
  | 1 => [5, 120, 9, 20, 60, 120]
  | 2 => [2, 1, 1, 2, 1, 0, 5, 2]
  | 11 => [114, 111, 111, 109]
  | 12 => [115, 119, 105, 116, 99, 104]
  | 13 => [98, 101, 100]
  | 14 => [116, 104, 105, 110, 103]
  | 15 => [109, 111, 111, 110]
  | 16 => [99, 111, 114, 100]
  | 17 => [115, 108, 101, 101, 112, 101, 114]
  | 18 => [117, 112]
  | _ => []
-- one instruction each
def x_push (v : AV) (σ : St) : Option St := some (v :: σ.1, σ.2)
def x_ild (k : Nat) (σ : St) : Option St := match σ.2.1[k]? with
  | some (some (.inl z)) => some (.inl z :: σ.1, σ.2)
  | _ => none
def x_lld (k : Nat) (σ : St) : Option St := match σ.2.1[k]? with
  | some (some (.inr (.inl z))) => some (.inr (.inl z) :: σ.1, σ.2)
  | _ => none
def x_ald (k : Nat) (σ : St) : Option St := match σ.2.1[k]? with
  | some (some (.inr (.inr r))) => some (.inr (.inr r) :: σ.1, σ.2)
  | _ => none
def clr (L : List (Option AV)) (k : Nat) : List (Option AV) := match k with
  | 0 => L
  | j + 1 => match L[j]? with
    | some (some (.inr (.inl _))) => L.set j none
    | _ => L
def st1 (L : List (Option AV)) (k : Nat) (v : AV) : List (Option AV) := (clr L k).set k (some v)
def st2 (L : List (Option AV)) (k : Nat) (v : AV) : List (Option AV) := ((clr L k).set k (some v)).set (k + 1) none
def x_ist (k : Nat) (σ : St) : Option St := match σ.1 with
  | .inl z :: st => if k < σ.2.1.length then some (st, st1 σ.2.1 k (.inl z), σ.2.2) else none
  | _ => none
def x_lst (k : Nat) (σ : St) : Option St := match σ.1 with
  | .inr (.inl z) :: st => if k + 1 < σ.2.1.length then some (st, st2 σ.2.1 k (.inr (.inl z)), σ.2.2) else none
  | _ => none
def x_ast (k : Nat) (σ : St) : Option St := match σ.1 with
  | .inr (.inr z) :: st => if k < σ.2.1.length then some (st, st1 σ.2.1 k (.inr (.inr z)), σ.2.2) else none
  | _ => none
def x_inc (k : Nat) (n : Int) (σ : St) : Option St := match σ.2.1[k]? with
  | some (some (.inl z)) => some (σ.1, st1 σ.2.1 k (.inl (z + n)), σ.2.2)
  | _ => none
def x_ii (f : Int → Int → Int) (σ : St) : Option St := match σ.1 with
  | .inl y :: .inl x :: st => some (.inl (f x y) :: st, σ.2)
  | _ => none
def x_id (f : Int → Int → Int) (σ : St) : Option St := match σ.1 with
  | .inl y :: .inl x :: st => if n32 y = 0 then none else some (.inl (f (n32 x) (n32 y)) :: st, σ.2)
  | _ => none
def x_ll (f : Int → Int → Int) (σ : St) : Option St := match σ.1 with
  | .inr (.inl y) :: .inr (.inl x) :: st => some (.inr (.inl (f x y)) :: st, σ.2)
  | _ => none
def x_ld (f : Int → Int → Int) (σ : St) : Option St := match σ.1 with
  | .inr (.inl y) :: .inr (.inl x) :: st => if n64 y = 0 then none else some (.inr (.inl (f (n64 x) (n64 y))) :: st, σ.2)
  | _ => none
def x_lcmp (σ : St) : Option St := match σ.1 with
  | .inr (.inl y) :: .inr (.inl x) :: st => some (.inl (if n64 y < n64 x then 1 else if n64 x = n64 y then 0 else -1) :: st, σ.2)
  | _ => none
def x_i (f : Int → Int) (σ : St) : Option St := match σ.1 with
  | .inl x :: st => some (.inl (f x) :: st, σ.2)
  | _ => none
def x_i2l (σ : St) : Option St := match σ.1 with
  | .inl x :: st => some (.inr (.inl (n32 x)) :: st, σ.2)
  | _ => none
def x_l2i (σ : St) : Option St := match σ.1 with
  | .inr (.inl x) :: st => some (.inl x :: st, σ.2)
  | _ => none
def o_shl (x y : Int) : Int := (Int32.ofInt x <<< (Int32.ofInt y &&& 31)).toInt
def o_shr (x y : Int) : Int := (Int32.ofInt x >>> (Int32.ofInt y &&& 31)).toInt
def o_ushr (x y : Int) : Int := ((Int32.ofInt x).toUInt32 >>> ((Int32.ofInt y).toUInt32 &&& Int32.toUInt32 31)).toInt32.toInt
def o_and (x y : Int) : Int := (Int32.ofInt x &&& Int32.ofInt y).toInt
def o_or (x y : Int) : Int := (Int32.ofInt x ||| Int32.ofInt y).toInt
def o_i2b (x : Int) : Int := (Int32.ofInt x).toInt8.toInt32.toInt
def o_i2c (x : Int) : Int := ((Int32.ofInt x).toUInt32 % 65536).toInt32.toInt
def o_nz (x : Int) : Int := (vp_nar .boolean (Int32.ofInt x)).toInt
def cat1 (v : AV) : Bool := match v with
  | .inr (.inl _) => false
  | _ => true
def x_dup (σ : St) : Option St := match σ.1 with
  | v :: st => if cat1 v then some (v :: v :: st, σ.2) else none
  | _ => none
def x_dup2 (σ : St) : Option St := match σ.1 with
  | v :: w :: st => if cat1 v && cat1 w then some (v :: w :: v :: w :: st, σ.2) else none
  | _ => none
def x_pop (σ : St) : Option St := match σ.1 with
  | v :: st => if cat1 v then some (st, σ.2) else none
  | _ => none
def x_get (c k : Nat) (σ : St) : Option St := match σ.1 with
  | .inr (.inr (.inl a)) :: st => match σ.2.2.1[a]? with
    | some (c', n, r) => if c' = c ∧ n = clN c then
        (if fT c k = 1 then some (.inr (.inl (σ.2.2.2 a k)) :: st, σ.2) else if fT c k = 2 then some (rfv (r k) :: st, σ.2) else some (.inl (σ.2.2.2 a k) :: st, σ.2))
      else none
    | none => none
  | _ => none
def x_puti (c k : Nat) (σ : St) : Option St := match σ.1 with
  | .inl z :: .inr (.inr (.inl a)) :: st => match σ.2.2.1[a]? with
    | some (c', n, _) => if c' = c ∧ n = clN c ∧ (fT c k = 3 → z = 0 ∨ z = 1) then some (st, σ.2.1, σ.2.2.1, um σ.2.2.2 a k z) else none
    | none => none
  | _ => none
def x_putl (c k : Nat) (σ : St) : Option St := match σ.1 with
  | .inr (.inl z) :: .inr (.inr (.inl a)) :: st => match σ.2.2.1[a]? with
    | some (c', n, _) => if c' = c ∧ n = clN c then some (st, σ.2.1, σ.2.2.1, um σ.2.2.2 a k z) else none
    | none => none
  | _ => none
def x_putr (c k : Nat) (σ : St) : Option St := match σ.1 with
  | .inr (.inr (.inl v)) :: .inr (.inr (.inl a)) :: st => match σ.2.2.1[a]? with
    | some (c', n, r) => if c' = c ∧ n = clN c then some (st, σ.2.1, σ.2.2.1.set a (c, n, uf r k (some v)), σ.2.2.2) else none
    | none => none
  | _ => none
def x_iald (S : List Int) (σ : St) : Option St := match σ.1 with
  | .inl i :: .inr (.inr (.inl a)) :: st => match σ.2.2.1[a]? with
    | some (k', n, _) => if k' = 9 ∧ 0 ≤ n32 i ∧ n32 i < (n : Int) then some (.inl (σ.2.2.2 a (n32 i)) :: st, σ.2) else none
    | none => none
  | .inl i :: .inr (.inr (.inr (.inl j))) :: st => if j < 3 ∧ 0 ≤ n32 i ∧ n32 i < ((roL S j).length : Int) then some (.inl ((roL S j).getD (n32 i).toNat 0) :: st, σ.2) else none
  | _ => none
def x_bald (S : List Int) (σ : St) : Option St := match σ.1 with
  | .inl i :: .inr (.inr (.inl a)) :: st => match σ.2.2.1[a]? with
    | some (k', n, _) => if (k' = 10 ∨ k' = 11) ∧ 0 ≤ n32 i ∧ n32 i < (n : Int) then some (.inl (σ.2.2.2 a (n32 i)) :: st, σ.2) else none
    | none => none
  | .inl i :: .inr (.inr (.inr (.inl j))) :: st => if (11 ≤ j ∧ j < 19) ∧ 0 ≤ n32 i ∧ n32 i < ((roL S j).length : Int) then some (.inl ((roL S j).getD (n32 i).toNat 0) :: st, σ.2) else none
  | _ => none
def x_iast (σ : St) : Option St := match σ.1 with
  | .inl z :: .inl i :: .inr (.inr (.inl a)) :: st => match σ.2.2.1[a]? with
    | some (k', n, _) => if k' = 9 ∧ 0 ≤ n32 i ∧ n32 i < (n : Int) then some (st, σ.2.1, σ.2.2.1, um σ.2.2.2 a (n32 i) z) else none
    | none => none
  | _ => none
def x_bast (σ : St) : Option St := match σ.1 with
  | .inl z :: .inl i :: .inr (.inr (.inl a)) :: st => match σ.2.2.1[a]? with
    | some (k', n, _) => if (k' = 10 ∨ k' = 11) ∧ 0 ≤ n32 i ∧ n32 i < (n : Int) then some (st, σ.2.1, σ.2.2.1, um σ.2.2.2 a (n32 i) (if k' = 10 then o_i2b z else o_nz z)) else none
    | none => none
  | _ => none
def x_aald (σ : St) : Option St := match σ.1 with
  | .inl i :: .inr (.inr (.inl a)) :: st => match σ.2.2.1[a]? with
    | some (k', n, r) => if (12 ≤ k' ∧ k' < 15) ∧ 0 ≤ n32 i ∧ n32 i < (n : Int) then some (rfv (r (n32 i).toNat) :: st, σ.2) else none
    | none => none
  | _ => none
def x_aast (σ : St) : Option St := match σ.1 with
  | .inr (.inr (.inl v)) :: .inl i :: .inr (.inr (.inl a)) :: st => match σ.2.2.1[a]? with
    | some (k', n, r) => match σ.2.2.1[v]? with
      | some (c', n', _) => if ((k' = 12 ∧ c' = 5) ∨ (k' = 13 ∧ c' = 6)) ∧ 0 ≤ n32 i ∧ n32 i < (n : Int) ∧ n' = clN c' then some (st, σ.2.1, σ.2.2.1.set a (k', n, uf r (n32 i).toNat (some v)), σ.2.2.2) else none
      | none => none
    | none => none
  | _ => none
def x_alen (S : List Int) (σ : St) : Option St := match σ.1 with
  | .inr (.inr (.inl a)) :: st => match σ.2.2.1[a]? with
    | some (kd, n, _) => if 9 ≤ kd ∧ kd < 15 then some (.inl (n : Int) :: st, σ.2) else none
    | none => none
  | .inr (.inr (.inr (.inl j))) :: st => if j < 3 ∨ (11 ≤ j ∧ j < 19) then some (.inl ((roL S j).length : Int) :: st, σ.2) else none
  | _ => none
/-- a field of a word: 0 its letters, 1 how they are coded -/
def x_gstr (k : Nat) (σ : St) : Option St := match σ.1 with
  | .inr (.inr (.inr (.inl j))) :: st => if 3 ≤ j ∧ j < 11 then some ((if k = 0 then vO (j + 8) else vI 0) :: st, σ.2) else none
  | _ => none
def nor : Nat → Option Nat := fun _ => none
def x_new (c : Nat) (σ : St) : Option St := some (.inr (.inr (.inl σ.2.2.1.length)) :: σ.1, σ.2.1, σ.2.2.1 ++ [(c, clN c, nor)], zm σ.2.2.2 σ.2.2.1.length)
def x_newa (kd : Nat) (σ : St) : Option St := match σ.1 with
  | .inl z :: st => if (9 ≤ kd ∧ kd < 14) ∧ 0 ≤ n32 z ∧ n32 z ≤ 1000 then some (.inr (.inr (.inl σ.2.2.1.length)) :: st, σ.2.1, σ.2.2.1 ++ [(kd, (n32 z).toNat, nor)], zm σ.2.2.2 σ.2.2.1.length) else none
  | _ => none
def x_mna (σ : St) : Option St := match σ.1 with
  | .inl y :: .inl z :: st => if 0 ≤ n32 z ∧ n32 z ≤ 1000 ∧ 0 ≤ n32 y ∧ n32 y ≤ 1000 then
      some (.inr (.inr (.inl σ.2.2.1.length)) :: st, σ.2.1, σ.2.2.1 ++ (14, (n32 z).toNat, fun i => if i < (n32 z).toNat then some (σ.2.2.1.length + 1 + i) else none) :: List.replicate (n32 z).toNat (9, (n32 y).toNat, nor), zm σ.2.2.2 σ.2.2.1.length) else none
  | _ => none
def x_acp (σ : St) : Option St := match σ.1 with
  | .inl n :: .inl dp :: .inr (.inr (.inl d)) :: .inl sp :: [.inr (.inr (.inl a))] => match σ.2.2.1[a]?, σ.2.2.1[d]? with
    | some (k0, n0, _), some (k1, n1, _) => if k0 = 9 ∧ k1 = 9 ∧ 0 ≤ n32 sp ∧ 0 ≤ n32 dp ∧ 0 ≤ n32 n ∧ n32 sp + n32 n ≤ (n0 : Int) ∧ n32 dp + n32 n ≤ (n1 : Int) then some ([], σ.2.1, σ.2.2.1, cpm σ.2.2.2 a d (n32 sp) (n32 dp) (n32 n)) else none
    | _, _ => none
  | _ => none
def x_oin (σ : St) : Option St := match σ.1 with
  | [.inr (.inr (.inl _))] => some ([], σ.2)
  | _ => none
def x_mm (k : Nat) (σ : St) : Option St := match σ.1 with
  | .inl y :: .inl x :: st => if st.length ≤ 4 then some (.inl (if k = 0 then (if n32 x < n32 y then y else x) else (if n32 y < n32 x then y else x)) :: st, σ.2) else none
  | _ => none
/-- an instruction by its number (the JVM's own, or 200 on), with two numbers -/
def ex (S : List Int) (i : Nat × Int × Int) : St → Option St := match i.1 with
  | 2 => x_push (vI i.2.1)
  | 16 => x_push (vI i.2.1)
  | 17 => x_push (vI i.2.1)
  | 18 => x_push (vI i.2.1)
  | 19 => x_push (vI i.2.1)
  | 9 => x_push (vL i.2.1)
  | 20 => x_push (vL i.2.1)
  | 21 => x_ild i.2.1.toNat
  | 22 => x_lld i.2.1.toNat
  | 25 => x_ald i.2.1.toNat
  | 54 => x_ist i.2.1.toNat
  | 55 => x_lst i.2.1.toNat
  | 58 => x_ast i.2.1.toNat
  | 132 => x_inc i.2.1.toNat i.2.2
  | 96 => x_ii (fun x y => x + y)
  | 100 => x_ii (fun x y => x - y)
  | 104 => x_ii (fun x y => x * y)
  | 120 => x_ii o_shl
  | 122 => x_ii o_shr
  | 124 => x_ii o_ushr
  | 126 => x_ii o_and
  | 128 => x_ii o_or
  | 108 => x_id Int.tdiv
  | 112 => x_id Int.tmod
  | 116 => x_i (fun x => -x)
  | 145 => x_i o_i2b
  | 97 => x_ll (fun x y => x + y)
  | 101 => x_ll (fun x y => x - y)
  | 105 => x_ll (fun x y => x * y)
  | 109 => x_ld Int.tdiv
  | 113 => x_ld Int.tmod
  | 148 => x_lcmp
  | 133 => x_i2l
  | 136 => x_l2i
  | 89 => x_dup
  | 92 => x_dup2
  | 87 => x_pop
  | 180 => x_get (i.2.1.toNat / 100) (i.2.1.toNat % 100)
  | 181 => if fT (i.2.1.toNat / 100) (i.2.1.toNat % 100) = 1 then x_putl (i.2.1.toNat / 100) (i.2.1.toNat % 100) else if fT (i.2.1.toNat / 100) (i.2.1.toNat % 100) = 2 then x_putr (i.2.1.toNat / 100) (i.2.1.toNat % 100) else x_puti (i.2.1.toNat / 100) (i.2.1.toNat % 100)
  | 46 => x_iald S
  | 51 => x_bald S
  | 50 => x_aald
  | 79 => x_iast
  | 84 => x_bast
  | 83 => x_aast
  | 190 => x_alen S
  | 146 => x_i o_i2c
  | 205 => x_gstr i.2.1.toNat
  | 178 => x_push (vO i.2.1.toNat)
  | 200 => x_push (vO i.2.1.toNat)
  | 187 => x_new i.2.1.toNat
  | 188 => x_newa i.2.1.toNat
  | 189 => x_newa i.2.1.toNat
  | 197 => x_mna
  | 201 => x_acp
  | 210 => x_mm i.2.1.toNat
  | 202 => x_oin
  | _ => fun _ => none
abbrev In : Type := Nat × Int × Int
def exL (S : List Int) (is : List In) (σ : St) : Option St := match is with
  | [] => some σ
  | i :: r => (ex S i σ).bind (exL S r)
-- where it goes on: the place, and the state there
abbrev Fn : Type := St → Option (Nat × St)
def j_to (q : Nat) : Fn := fun σ => some (q, σ)
def c1 (op : Nat) (z : Int) : Bool := match op with
  | 0 => decide (z = 0)
  | 1 => decide (z ≠ 0)
  | 2 => decide (z < 0)
  | 3 => decide (0 ≤ z)
  | 4 => decide (0 < z)
  | _ => decide (z ≤ 0)
def c2 (op : Nat) (x y : Int) : Bool := match op with
  | 0 => decide (x = y)
  | 1 => decide (x ≠ y)
  | 2 => decide (x < y)
  | 3 => decide (y ≤ x)
  | 4 => decide (y < x)
  | _ => decide (x ≤ y)
def j_if (op q n : Nat) : Fn := fun σ => match σ.1 with
  | .inl z :: st => some (if c1 op (n32 z) then q else n, st, σ.2)
  | _ => none
def j_cmp (op q n : Nat) : Fn := fun σ => match σ.1 with
  | .inl y :: .inl x :: st => some (if c2 op (n32 x) (n32 y) then q else n, st, σ.2)
  | _ => none
def j_nn (q n : Nat) : Fn := fun σ => match σ.1 with
  | .inr (.inr (.inl _)) :: st => some (q, st, σ.2)
  | .inr (.inr (.inr (.inr _))) :: st => some (n, st, σ.2)
  | _ => none
def j_sw (lo : Int) (qs : List Nat) (d : Nat) : Fn := fun σ => match σ.1 with
  | .inl z :: st => some (if lo ≤ n32 z then qs.getD (n32 z - lo).toNat d else d, st, σ.2)
  | _ => none
/-- how a stretch ends: 0 it goes on at a; 1 goto a; 2 if<z> a else b; 3 if_icmp<z> a else b; 4 ifnonnull a else b; 5 a switch from z on; 6 a return; 7 a call of method a, then on at b, of z arguments -/
abbrev Tn : Type := Nat × Nat × Nat × Int × List Nat
abbrev Bk : Type := Nat × List In × Tn
def jmp (t : Tn) : Fn := match t.1 with
  | 0 => j_to t.2.1
  | 1 => j_to t.2.1
  | 2 => j_if t.2.2.2.1.toNat t.2.1 t.2.2.1
  | 3 => j_cmp t.2.2.2.1.toNat t.2.1 t.2.2.1
  | 4 => j_nn t.2.1 t.2.2.1
  | 5 => j_sw t.2.2.2.1 t.2.2.2.2 t.2.1
  | 8 => j_sw t.2.2.2.1 t.2.2.2.2 t.2.1
  | _ => fun _ => none
/-- the object that is called is of that class (13: a word) -/
def isC (k : Nat) (vs : List AV) (T : List Sh) : Bool := match vs with
  | .inr (.inr (.inl a)) :: _ => (match T[a]? with
    | some (k', n, _) => decide (k' = k ∧ n = clN k ∧ k < 9)
    | none => false)
  | .inr (.inr (.inr (.inl j))) :: _ => decide (k = 13 ∧ 3 ≤ j ∧ j < 11)
  | _ => false
def isR (vs : List AV) : Bool := match vs with
  | .inr (.inr (.inl _)) :: _ => true
  | _ => false
/-- who is called: 0 nobody, 1 an object of that class, 2 a new object -/
def rcv (k r : Nat) (vs : List AV) (T : List Sh) : Bool := match k with
  | 0 => true
  | 1 => isC r vs T
  | _ => isR vs
def lvs (vs : List AV) : List (Option AV) := vs.flatMap (fun v => if cat1 v then [some v] else [some v, none])
def ini (nL : Nat) (vs : List AV) : Option (List (Option AV)) := if (lvs vs).length ≤ nL then some (lvs vs ++ List.replicate (nL - (lvs vs).length) none) else none
/-- what is returned: 0 nothing, 1 a number, 2 a long, 3 a truth value, 4 a byte, 5 a sign -/
def okr (k : Nat) (z : Int) : Bool := match k with
  | 1 => true
  | 3 => decide (z = 0 ∨ z = 1)
  | 4 => decide (z = 0)
  | 5 => decide (0 ≤ z ∧ z < 65536)
  | _ => false
def rtv (k : Nat) (σ : St) : Option (Option AV × Hp) := match σ.1 with
  | [] => if k = 0 then some (none, σ.2.2) else none
  | [.inl z] => if okr k z then some (some (.inl z), σ.2.2) else none
  | [.inr (.inl z)] => if k = 2 then some (some (.inr (.inl z)), σ.2.2) else none
  | _ => none
