/-! THE SMALL MACHINE'S STATES AS THE JVM HAS THEM -/
theorem i32_toInt (z : Int) : (Int32.ofInt z).toInt = n32 z := by
  rw [Int32.toInt_ofInt]
  have h : (Int32.size : Nat) = 4294967296 := rfl
  rw [h]
  unfold Int.bmod n32
  simp only []
  split <;> omega
theorem i64_toInt (z : Int) : (Int64.ofInt z).toInt = n64 z := by
  rw [Int64.toInt_ofInt]
  have h : (Int64.size : Nat) = 18446744073709551616 := rfl
  rw [h]
  unfold Int.bmod n64
  simp only []
  split <;> omega
theorem i32_n32 (z : Int) : Int32.ofInt (n32 z) = Int32.ofInt z := by rw [← i32_toInt, Int32.ofInt_toInt]
theorem i64_n64 (z : Int) : Int64.ofInt (n64 z) = Int64.ofInt z := by rw [← i64_toInt, Int64.ofInt_toInt]
theorem i32_clamp (z : Int) : (Int32.ofInt z).toNatClampNeg = (n32 z).toNat := by rw [← i32_toInt]; rfl
theorem i32_in {z : Int} {n : Nat} (h0 : 0 ≤ n32 z) (h1 : n32 z < (n : Int)) : vp_in (Int32.ofInt z) n := by
  rw [vp_in_iff, i32_toInt]; exact ⟨h0, h1⟩
theorem i32_lt (x y : Int) : Int32.ofInt x < Int32.ofInt y ↔ n32 x < n32 y := by rw [Int32.lt_iff_toInt_lt, i32_toInt, i32_toInt]
theorem i32_le (x y : Int) : Int32.ofInt x ≤ Int32.ofInt y ↔ n32 x ≤ n32 y := by rw [Int32.le_iff_toInt_le, i32_toInt, i32_toInt]
theorem i32_eq (x y : Int) : Int32.ofInt x = Int32.ofInt y ↔ n32 x = n32 y := by rw [← Int32.toInt_inj, i32_toInt, i32_toInt]
theorem i64_lt (x y : Int) : Int64.ofInt x < Int64.ofInt y ↔ n64 x < n64 y := by rw [Int64.lt_iff_toInt_lt, i64_toInt, i64_toInt]
theorem i64_eq (x y : Int) : Int64.ofInt x = Int64.ofInt y ↔ n64 x = n64 y := by rw [← Int64.toInt_inj, i64_toInt, i64_toInt]
theorem i32_0 : (0 : Int32) = Int32.ofInt 0 := by decide
theorem n32_0 : n32 0 = 0 := by decide
theorem n64_0 : n64 0 = 0 := by decide
theorem i32_eq0 (x : Int) : Int32.ofInt x = 0 ↔ n32 x = 0 := by rw [i32_0, i32_eq, n32_0]
theorem i64_0 : (0 : Int64) = Int64.ofInt 0 := by decide
theorem i64_eq0 (x : Int) : Int64.ofInt x = 0 ↔ n64 x = 0 := by rw [i64_0, i64_eq, n64_0]
theorem i32_bm (z : Int) : z.bmod (2 ^ 32) = n32 z := by
  unfold Int.bmod n32
  simp only [Nat.reducePow]
  split <;> omega
theorem i64_bm (z : Int) : z.bmod (2 ^ 64) = n64 z := by
  unfold Int.bmod n64
  simp only [Nat.reducePow]
  split <;> omega
theorem i32_div (x y : Int) : Int32.ofInt (Int.tdiv (n32 x) (n32 y)) = Int32.ofInt x / Int32.ofInt y := by
  rw [← Int32.toInt_inj, i32_toInt, Int32.toInt_div, i32_bm, i32_toInt, i32_toInt]
theorem i64_div (x y : Int) : Int64.ofInt (Int.tdiv (n64 x) (n64 y)) = Int64.ofInt x / Int64.ofInt y := by
  rw [← Int64.toInt_inj, i64_toInt, Int64.toInt_div, i64_bm, i64_toInt, i64_toInt]
theorem i32_mod (x y : Int) : Int32.ofInt (Int.tmod (n32 x) (n32 y)) = Int32.ofInt x - Int32.ofInt x / Int32.ofInt y * Int32.ofInt y := by
  rw [Int.tmod_def, Int32.ofInt_sub, Int32.ofInt_mul, i32_div, i32_n32, i32_n32, Int32.mul_comm]
theorem i64_mod (x y : Int) : Int64.ofInt (Int.tmod (n64 x) (n64 y)) = Int64.ofInt x - Int64.ofInt x / Int64.ofInt y * Int64.ofInt y := by
  rw [Int.tmod_def, Int64.ofInt_sub, Int64.ofInt_mul, i64_div, i64_n64, i64_n64, Int64.mul_comm]
theorem i32_64 (x : Int) : (Int32.ofInt x).toInt64 = Int64.ofInt (n32 x) := by
  rw [← Int64.toInt_inj, Int32.toInt_toInt64, i32_toInt, i64_toInt]
  have := n32_lo x
  have := n32_hi x
  rw [n64_id (by omega) (by omega)]
theorem i64_cmp (x y : Int) : lg_cmp (Int64.ofInt x) (Int64.ofInt y) = Int32.ofInt (if n64 y < n64 x then 1 else if n64 x = n64 y then 0 else -1) := by
  unfold lg_cmp
  simp only [gt_iff_lt, i64_lt, i64_eq]
  split
  · rfl
  · split <;> rfl
-- base, class numbers and slots, array classes, what is only read
abbrev Par : Type := Nat × va_G × (Nat → ClassId) × (Nat → Option Nat)
def cV (P : Par) (v : AV) : Value := match v with
  | .inl z => .int (Int32.ofInt z)
  | .inr (.inl z) => .long (Int64.ofInt z)
  | .inr (.inr (.inl k)) => .ref (P.1 + k)
  | .inr (.inr (.inr (.inl j))) => va_rf (P.2.2.2 j)
  | .inr (.inr (.inr (.inr _))) => .null
def fV (P : Par) (c : Nat) (m : Int → Int) (r : Nat → Option Nat) (k : Nat) : Value :=
  if fT c k = 1 then .long (Int64.ofInt (m k)) else if fT c k = 2 then cV P (rfv (r k)) else .int (Int32.ofInt (m k))
def eC (P : Par) (sh : Sh) (m : Int → Int) : va_E :=
  if sh.1 < 9 then .inr (sh.1, (List.range sh.2.1).map (fV P sh.1 m sh.2.2))
  else if sh.1 < 12 then .inl (P.2.2.1 sh.1, sh.2.1, .inl (fun i => Int32.ofInt (m i)))
  else .inl (P.2.2.1 sh.1, sh.2.1, .inr (.inr (.inr (.inr (fun i => (sh.2.2 i).map (fun k => P.1 + k))))))
def wsOf (P : Par) (h : Hp) : va_W := h.1.mapIdx (fun k sh => (P.1 + k, eC P sh (h.2 k)))
theorem ws_get (P : Par) (h : Hp) (k : Nat) : (wsOf P h)[k]? = (h.1[k]?).map (fun sh => (P.1 + k, eC P sh (h.2 k))) := by
  unfold wsOf
  rw [List.getElem?_mapIdx]
theorem ws_at {P : Par} {h : Hp} {k : Nat} {sh : Sh} (e : h.1[k]? = some sh) : (wsOf P h)[k]? = some (P.1 + k, eC P sh (h.2 k)) := by rw [ws_get, e]; rfl
theorem ws_len (P : Par) (h : Hp) : (wsOf P h).length = h.1.length := by unfold wsOf; rw [List.length_mapIdx]
abbrev aA (P : Par) : Nat → Prop := fun q => P.1 ≤ q
theorem ws_D (P : Par) (h : Hp) : va_D (aA P) (wsOf P h) := by
  refine ⟨fun i j x y hi hj hxy => ?_, fun k q hk => ?_⟩
  · rw [ws_get] at hi hj
    cases e1 : h.1[i]? with
    | none => rw [e1] at hi; cases hi
    | some s1 =>
      cases e2 : h.1[j]? with
      | none => rw [e2] at hj; cases hj
      | some s2 =>
        rw [e1] at hi; rw [e2] at hj
        cases hi; cases hj
        have h9 : P.1 + i = P.1 + j := hxy
        omega
  · rw [ws_get] at hk
    cases e1 : h.1[k]? with
    | none => rw [e1] at hk; cases hk
    | some s1 =>
      rw [e1] at hk
      cases hk
      exact Nat.le_add_right _ _
def hR (P : Par) (h : Hp) (H : Heap) : Prop := H.size = P.1 + h.1.length ∧ va_P P.2.1 vwCl (wsOf P h) H
def lR (P : Par) (nL : Nat) (L : List (Option AV)) (ls : Array Slot) : Prop := L.length = nL ∧ ls.size = nL ∧ lv_wf ls ∧ ∀ (k : Nat) (v : AV), L[k]? = some (some v) → ls[k]? = some (.val (cV P v))
def sz (T : List Sh) : Nat := (T.map (fun s => s.2.1)).sum
def LeT (T T' : List Sh) : Prop := T.length ≤ T'.length ∧ sz T ≤ sz T'
theorem LeT.rf (T : List Sh) : LeT T T := ⟨Nat.le_refl _, Nat.le_refl _⟩
theorem LeT.tr {a b c : List Sh} (h : LeT a b) (g : LeT b c) : LeT a c := ⟨Nat.le_trans h.1 g.1, Nat.le_trans h.2 g.2⟩
-- the words of the tables
def tG : List Cond := lw_tbl.filter goodWord
def isN : Cond → Bool
  | .methodLinkNest .. => true
  | .fieldLinkNest .. => true
  | .arrayOver _ => true
  | _ => false
def nW : List Cond := lw_tbl.filter isN
theorem tG_good : ∀ w ∈ tG, w ∈ lw_tbl ∧ goodWord w = true := fun w hw => List.mem_filter.mp hw
theorem nW_in : ∀ w ∈ nW, w ∈ lw_tbl ∧ isN w = true := fun w hw => List.mem_filter.mp hw
theorem tG_of {w : Cond} (h : w ∈ lw_tbl) (g : goodWord w = true) : w ∈ tG := List.mem_filter.mpr ⟨h, g⟩
abbrev tyL (P : Par) : List (ClassId × FieldType) := [(P.2.2.1 9, .int), (P.2.2.1 10, .byte), (P.2.2.1 11, .boolean), (P.2.2.1 12, .object RX5), (P.2.2.1 13, .object RX6), (P.2.2.1 14, .array .int)]
def sLen : List Nat := [4, 6, 3, 5, 4, 4, 7, 2]
theorem rf_or (P : Par) (z : Nat ⊕ Nat ⊕ Unit) : (∃ a, cV P (.inr (.inr z)) = .ref a) ∨ cV P (.inr (.inr z)) = .null := by
  rcases z with z | z | z
  · exact Or.inl ⟨_, rfl⟩
  · show (∃ a, va_rf (P.2.2.2 z) = .ref a) ∨ va_rf (P.2.2.2 z) = .null
    cases P.2.2.2 z with
    | none => exact Or.inr rfl
    | some a => exact Or.inl ⟨a, rfl⟩
  · exact Or.inr rfl
def sByt : List (List Int32) := [[114, 111, 111, 109], [115, 119, 105, 116, 99, 104], [98, 101, 100], [116, 104, 105, 110, 103], [109, 111, 111, 110], [99, 111, 114, 100], [115, 108, 101, 101, 112, 101, 114], [117, 112]]
/-- the constants of the program below the base: the script, two rows of numbers, the words -/
def Wc (S : List Int) (P : Par) (U : State) (H : Heap) : Prop :=
  ∃ ad : Nat → Nat, (∀ j, j < 19 → P.2.2.2 j = some (ad j)) ∧ va_Z "LastAwake" "MOST_OF_TRAIT" "[I" (.ref (ad 1)) (aA P) U H ∧ va_Z "LastAwake$Script" "NUMBERS_OF" "[I" (.ref (ad 2)) (aA P) U H ∧
  (∀ j, j < 3 → va_T .int (ad j) (roL S j).length (fun i => .int (Int32.ofInt ((roL S j).getD i 0))) (aA P) U H) ∧
  va_Z "java/lang/String" "COMPACT_STRINGS" "Z" (.int 1) (aA P) U H ∧ va_Z "jdk/internal/util/Preconditions" "SIOOBE_FORMATTER" "Ljava/util/function/BiFunction;" (va_rf (P.2.2.2 19)) (aA P) U H ∧ vk_S 8 sLen sByt (fun i => ad (3 + i)) (fun i => ad (11 + i)) (aA P) U H
theorem Wc.moved {S : List Int} {P : Par} {u U : State} {H : Heap} (hvm : u.vm.Alike U.vm) (h : Wc S P u H) : Wc S P U H := by
  obtain ⟨ad, h0, h1, h2, h3, h4, h5, h6⟩ := h
  exact ⟨ad, h0, h1.moved hvm, h2.moved hvm, fun j hj => (h3 j hj).moved hvm, h4.moved hvm, h5.moved hvm, h6.moved hvm⟩
theorem Wc.kept {S : List Int} {P : Par} {U : State} {H H1 : Heap} (h : Wc S P U H) (hq : ∀ a : Nat, a < H.size → ¬ aA P a → H1[a]? = H[a]?) : Wc S P U H1 := by
  obtain ⟨ad, h0, h1, h2, h3, h4, h5, h6⟩ := h
  exact ⟨ad, h0, h1.kept hq, h2.kept hq, fun j hj => (h3 j hj).kept hq, h4.kept hq, h5.kept hq, h6.kept hq⟩
/-- the pool's places of the eight words -/
def sIdx : List (Nat × String) := [(72, "room"), (78, "switch"), (80, "bed"), (82, "thing"), (84, "moon"), (86, "cord"), (88, "sleeper"), (90, "up")]
def Wr (P : Par) (U : State) : Prop := ∀ (i : Nat) (q : Nat × String), sIdx[i]? = some q → ∃ a, P.2.2.2 (3 + i) = some a ∧ vk_R RX4 q.1 q.2 a U
def Wn (U : State) : Prop := ∀ w ∈ nW, va_Nw w U
theorem Wn.warm {s U : State} (hW : s.WarmedH U.vm) (h : Wn s) : Wn U := by
  intro w hw
  have h1 := h w hw
  have h2 := (nW_in w hw).2
  cases w with
  | methodLinkNest a b c d => exact h1.warmM hW
  | fieldLinkNest a b c d e f => exact h1.warmF hW
  | arrayOver t => exact gr_keep (a' := #[]) (s := s) (v := U.vm) hW.alike t h1
  | _ => cases h2
def Wd (S : List Int) (P : Par) (U : State) : Prop := va_K P.2.1 vwCl (tyL P) U ∧ Wn U ∧ Wr P U ∧ Wc S P U U.heap
theorem Wd.goes {S : List Int} {P : Par} {s U : State} (hW : s.WarmedH U.vm) (hq : ∀ a : Nat, a < s.heap.size → ¬ aA P a → U.heap[a]? = s.heap[a]?) (h : Wd S P s) : Wd S P U := by
  obtain ⟨h1, h2, h3, h4⟩ := h
  exact ⟨va_K.moved hW.alike h1, h2.warm hW, fun i q hi => by obtain ⟨a, e1, e2⟩ := h3 i q hi; exact ⟨a, e1, e2.warm hW⟩, (h4.moved hW.alike).kept hq⟩
theorem Wd.calling {S : List Int} {P : Par} {U : State} {g : JFrame} {mk : MethodId} {a : Array Value} (h : Wd S P U) : Wd S P (U.calling g mk a) := by
  obtain ⟨h1, h2, h3, h4⟩ := h
  refine ⟨va_K.moved (u := U) (U := U.calling g mk a) (Vm.Alike.refl U.vm) h1, fun w hw => ?_, fun i q hi => ?_, ?_⟩
  · have h5 := h2 w hw
    have h6 := (nW_in w hw).2
    cases w with
    | methodLinkNest _ _ _ _ => exact va_Nw.same rfl rfl h5
    | fieldLinkNest _ _ _ _ _ _ => exact va_Nw.same rfl rfl h5
    | arrayOver t => exact h5
    | _ => cases h6
  · obtain ⟨b, e1, e2⟩ := h3 i q hi
    exact ⟨b, e1, vk_R.same (u := U) (U := U.calling g mk a) rfl e2⟩
  · exact h4.moved (U := U.calling g mk a) (Vm.Alike.refl U.vm)
