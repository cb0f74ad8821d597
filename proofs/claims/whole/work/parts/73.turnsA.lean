/-! TURNS, by numbers alone -/
section TurnsA
variable {z n : Nat} {l e : Nat → Int} {o tt : Nat → Nat} {B : Int}
def sN (f : Nat → Nat) : Nat → Nat
  | 0 => 0
  | s + 1 => sN f s + f s
theorem sN_add {f g : Nat → Nat} : ∀ z : Nat, sN (fun s => f s + g s) z = sN f z + sN g z
  | 0 => rfl
  | z + 1 => by
    have ih := sN_add (f := f) (g := g) z
    show sN (fun s => f s + g s) z + (f z + g z) = sN f z + f z + (sN g z + g z)
    omega
theorem sN_one {d : Nat} : ∀ z : Nat, sN (fun s => if d = s then 1 else 0) z = if d < z then 1 else 0
  | 0 => rfl
  | z + 1 => by
    have ih := sN_one (d := d) z
    show sN (fun s => if d = s then 1 else 0) z + (if d = z then 1 else 0) = _
    rw [ih]
    by_cases h1 : d < z
    · rw [if_pos h1, if_neg (by omega), if_pos (by omega)]
    · by_cases h2 : d = z
      · rw [if_neg h1, if_pos h2, if_pos (by omega)]
      · rw [if_neg h1, if_neg h2, if_neg (by omega)]
theorem sN_le {f g : Nat → Nat} : ∀ z : Nat, (∀ s, s < z → f s ≤ g s) → sN f z ≤ sN g z
  | 0, _ => Nat.le_refl 0
  | z + 1, h => by
    have ih := sN_le z (fun s hs => h s (by omega))
    have := h z (by omega)
    show sN f z + f z ≤ sN g z + g z
    omega
theorem sN_mono {s : Nat} : ∀ t : Nat, s < t → sN o (s + 1) ≤ sN o t
  | 0, h => absurd h (Nat.not_lt_zero s)
  | t + 1, h => by
    by_cases e : s = t
    · subst e
      exact Nat.le_refl _
    · have ih := sN_mono t (show s < t by omega)
      have e2 : sN o (t + 1) = sN o t + o t := rfl
      omega
/-- how often s is a figure of c, which has n figures to the base z -/
def cnR (z s : Nat) : Nat → Nat → Nat
  | 0, _ => 0
  | n + 1, c => cnR z s n (c / z) + (if c % z = s then 1 else 0)
theorem cnR_le {z s : Nat} : ∀ (n c : Nat), cnR z s n c ≤ n
  | 0, _ => Nat.le_refl 0
  | n + 1, c => by
    have ih := cnR_le (z := z) (s := s) n (c / z)
    unfold cnR
    split <;> omega
theorem cnR_sum (hz : 0 < z) : ∀ (n c : Nat), sN (fun s => cnR z s n c) z = n
  | 0, c => by
    have : ∀ z : Nat, sN (fun s => cnR z s 0 c) z = 0 := fun z => by
      show sN (fun _ => 0) z = 0
      induction z with
      | zero => rfl
      | succ z ih => show sN (fun _ => 0) z + 0 = 0; omega
    show sN (fun _ => 0) z = 0
    have h := this z
    exact h
  | n + 1, c => by
    have ih := cnR_sum hz n (c / z)
    show sN (fun s => cnR z s n (c / z) + (if c % z = s then 1 else 0)) z = n + 1
    rw [sN_add, ih, sN_one, if_pos (Nat.mod_lt c hz)]
/-- whose turn it is, one behind another -/
def TtOk (z n : Nat) (o tt : Nat → Nat) : Prop := ∀ k, k < n → tt k < z ∧ sN o (tt k) ≤ k ∧ k < sN o (tt k) + o (tt k)
def grT (z : Nat) (tt : Nat → Nat) : Nat → Nat
  | 0 => 0
  | k + 1 => grT z tt k * z + tt k
theorem grT_div {k : Nat} (ht : tt k < z) : grT z tt (k + 1) / z = grT z tt k := by
  show (grT z tt k * z + tt k) / z = _
  rw [Nat.add_comm, Nat.add_mul_div_right _ _ (by omega), Nat.div_eq_of_lt ht, Nat.zero_add]
theorem grT_mod {k : Nat} (ht : tt k < z) : grT z tt (k + 1) % z = tt k := by
  show (grT z tt k * z + tt k) % z = _
  rw [Nat.add_comm, Nat.add_mul_mod_self_right, Nat.mod_eq_of_lt ht]
theorem grT_lt (h : TtOk z n o tt) : ∀ k : Nat, k ≤ n → grT z tt k < z ^ k
  | 0, _ => by show 0 < 1; omega
  | k + 1, hk => by
    have ih := grT_lt h k (by omega)
    have ht := (h k (by omega)).1
    show grT z tt k * z + tt k < z ^ k * z
    have m := Nat.mul_le_mul_right z (show grT z tt k + 1 ≤ z ^ k by omega)
    rw [Nat.add_mul] at m
    omega
theorem grT_cn (h : TtOk z n o tt) {s : Nat} (hs : s < z) : ∀ k : Nat, k ≤ n → cnR z s k (grT z tt k) = if k ≤ sN o s then 0 else if sN o s + o s ≤ k then o s else k - sN o s
  | 0, _ => by
    rw [if_pos (Nat.zero_le _)]
    rfl
  | k + 1, hk => by
    have ih := grT_cn h hs k (by omega)
    obtain ⟨h1, h2, h3⟩ := h k (by omega)
    show cnR z s k (grT z tt (k + 1) / z) + (if grT z tt (k + 1) % z = s then 1 else 0) = _
    rw [grT_div h1, grT_mod h1, ih]
    have e1 : sN o (s + 1) = sN o s + o s := rfl
    have e2 : sN o (tt k + 1) = sN o (tt k) + o (tt k) := rfl
    by_cases c1 : tt k = s
    · rw [if_pos c1]
      rw [c1] at h2 h3
      by_cases c2 : k = sN o s
      · rw [if_pos (by omega), if_neg (by omega)]
        by_cases c3 : sN o s + o s ≤ k + 1
        · rw [if_pos c3]; omega
        · rw [if_neg c3]; omega
      · rw [if_neg (by omega), if_neg (by omega), if_neg (by omega)]
        by_cases c3 : sN o s + o s ≤ k + 1
        · rw [if_pos c3]; omega
        · rw [if_neg c3]; omega
    · rw [if_neg c1]
      rcases (show s < tt k ∨ tt k < s by omega) with c2 | c2
      · have m := sN_mono (o := o) (tt k) c2
        by_cases c3 : k ≤ sN o s
        · rw [if_pos c3]
          by_cases c4 : k + 1 ≤ sN o s
          · rw [if_pos c4]
          · rw [if_neg c4, if_pos (by omega)]; omega
        · rw [if_neg c3, if_pos (by omega), if_neg (by omega), if_pos (by omega)]; omega
      · have m := sN_mono (o := o) s c2
        rw [if_pos (by omega), if_pos (by omega)]
theorem grT_le (h : TtOk z n o tt) {s : Nat} (hs : s < z) : cnR z s n (grT z tt n) ≤ o s := by
  rw [grT_cn h hs n (Nat.le_refl n)]
  split
  · omega
  · split <;> omega
/-- no code ahead of it will do -/
theorem grT_first (h : TtOk z n o tt) : ∀ (k c : Nat), k ≤ n → (∀ s, s < z → cnR z s k c ≤ o s) → grT z tt k ≤ c
  | 0, c, _, _ => Nat.zero_le c
  | k + 1, c, hk, hc => by
    obtain ⟨h1, h2, h3⟩ := h k (by omega)
    have hz : 0 < z := by omega
    have ih := grT_first h k (c / z) (by omega) (fun s hs => by
      have := hc s hs
      unfold cnR at this
      omega)
    have dm := Nat.div_add_mod c z
    have ml := Nat.mod_lt c hz
    show grT z tt k * z + tt k ≤ c
    rw [Nat.mul_comm z] at dm
    by_cases c1 : grT z tt k = c / z
    · rw [c1]
      by_cases c2 : c % z < tt k
      · have m := sN_mono (o := o) (tt k) c2
        have x := hc (c % z) ml
        have y := grT_cn h ml k (by omega)
        have e1 : sN o (c % z + 1) = sN o (c % z) + o (c % z) := rfl
        have w : cnR z (c % z) (k + 1) c = cnR z (c % z) k (c / z) + 1 := by
          show cnR z (c % z) k (c / z) + (if c % z = c % z then 1 else 0) = _
          rw [if_pos rfl]
        rw [w, ← c1, y] at x
        by_cases c3 : k ≤ sN o (c % z)
        · rw [if_pos c3] at x
          omega
        · rw [if_neg c3, if_pos (by omega)] at x
          omega
      · omega
    · have m := Nat.mul_le_mul_right z (show grT z tt k + 1 ≤ c / z by omega)
      rw [Nat.add_mul] at m
      omega
theorem grT_pow (h : TtOk z n o tt) : ∀ (m k : Nat), k + m ≤ n → grT z tt (k + m) / z ^ m = grT z tt k
  | 0, k, _ => by
    show grT z tt k / 1 = _
    exact Nat.div_one _
  | m + 1, k, hk => by
    have ih := grT_pow h m k (by omega)
    have ht := (h (k + m) (by omega)).1
    rw [Nat.pow_succ, Nat.mul_comm, ← Nat.div_div_eq_div_mul]
    show grT z tt (k + m + 1) / z / z ^ m = _
    rw [grT_div ht]
    exact ih
/-- what one bears -/
def buT (n : Nat) (l e : Nat → Int) (s o : Nat) : Int := (n : Int) * l s + (o : Int) * e s
theorem buT_le {s o o' : Nat} (he : 0 ≤ e s) (h : o ≤ o') : buT n l e s o ≤ buT n l e s o' := by
  have m := Int.mul_le_mul_of_nonneg_right (show (o : Int) ≤ (o' : Int) by omega) he
  unfold buT
  omega
def IsOw (n : Nat) (l e : Nat → Int) (B : Int) (s q : Nat) : Prop := q ≤ n ∧ (∀ k, k < q → buT n l e s (k + 1) ≤ B) ∧ (q < n → B < buT n l e s (q + 1))
theorem ow_ex (n : Nat) (l e : Nat → Int) (B : Int) (s : Nat) : ∃ q, IsOw n l e B s q := by
  obtain ⟨q, q1, q2, q3⟩ := first_of (P := fun i => B < buT n l e s (i + 1)) n
  exact ⟨q, q1, fun k hk => by have := q2 k hk; omega, q3⟩
noncomputable def owT (n : Nat) (l e : Nat → Int) (B : Int) (s : Nat) : Nat := Classical.choose (ow_ex n l e B s)
theorem owT_is (n : Nat) (l e : Nat → Int) (B : Int) (s : Nat) : IsOw n l e B s (owT n l e B s) := Classical.choose_spec (ow_ex n l e B s)
theorem owT_in {s k : Nat} (he : 0 ≤ e s) (h0 : buT n l e s 0 ≤ B) (hk : k ≤ owT n l e B s) : buT n l e s k ≤ B := by
  have w := owT_is n l e B s
  cases k with
  | zero => exact h0
  | succ k => exact w.2.1 k (by omega)
theorem owT_out {s k : Nat} (he : 0 ≤ e s) (hk : owT n l e B s < k) (hn : k ≤ n) : B < buT n l e s k := by
  have w := owT_is n l e B s
  have x := w.2.2 (by omega)
  have y := buT_le (n := n) (l := l) (s := s) he (show owT n l e B s + 1 ≤ k by omega)
  omega
/-- the most that one has to bear -/
def mxT (f : Nat → Int) : Nat → Int
  | 0 => 0
  | s + 1 => if f s < mxT f s then mxT f s else f s
theorem mxT_0 {f : Nat → Int} : ∀ z : Nat, 0 ≤ mxT f z ∨ ∃ s, s < z ∧ mxT f z = f s
  | 0 => Or.inl (Int.le_refl 0)
  | z + 1 => by
    unfold mxT
    split
    · rcases mxT_0 (f := f) z with h | ⟨s, hs, h⟩
      · exact Or.inl h
      · exact Or.inr ⟨s, by omega, h⟩
    · exact Or.inr ⟨z, by omega, rfl⟩
theorem mxT_ge {f : Nat → Int} : ∀ z : Nat, 0 ≤ mxT f z ∧ ∀ s, s < z → f s ≤ mxT f z
  | 0 => ⟨Int.le_refl 0, fun s hs => by omega⟩
  | z + 1 => by
    have ih := mxT_ge (f := f) z
    unfold mxT
    split
    · rename_i c
      refine ⟨ih.1, fun s hs => ?_⟩
      by_cases es : s = z
      · subst es; omega
      · exact ih.2 s (by omega)
    · rename_i c
      refine ⟨by omega, fun s hs => ?_⟩
      by_cases es : s = z
      · subst es; omega
      · have := ih.2 s (by omega)
        omega
theorem mxT_le {f : Nat → Int} (h0 : 0 ≤ B) : ∀ z : Nat, (∀ s, s < z → f s ≤ B) → mxT f z ≤ B
  | 0, _ => h0
  | z + 1, h => by
    have ih := mxT_le h0 z (fun s hs => h s (by omega))
    have := h z (by omega)
    unfold mxT
    split <;> omega
def moT (z n : Nat) (l e : Nat → Int) (c : Nat) : Int := mxT (fun s => buT n l e s (cnR z s n c)) z
/-- a bound that no code is within, but all are at or above -/
def LoT (z n : Nat) (l e : Nat → Int) (B : Int) : Prop := 0 ≤ B ∧ (∀ s, s < z → buT n l e s 0 ≤ B) ∧ ∀ c, B ≤ moT z n l e c
theorem LoT_start (he : ∀ s, s < z → 0 ≤ e s) : LoT z n l e (mxT (fun s => buT n l e s 0) z) := by
  have g := mxT_ge (f := fun s => buT n l e s 0) z
  refine ⟨g.1, g.2, fun c => ?_⟩
  have m := mxT_ge (f := fun s => buT n l e s (cnR z s n c)) z
  exact mxT_le m.1 z (fun s hs => by
    have := m.2 s hs
    have y := buT_le (n := n) (l := l) (s := s) (he s hs) (Nat.zero_le (cnR z s n c))
    omega)
/-- the next burden that one would have -/
def nxT (n : Nat) (l e : Nat → Int) (w : Nat → Nat) : Nat → Int
  | 0 => 1000000000
  | s + 1 => if w s < n then (if buT n l e s (w s + 1) < nxT n l e w s then buT n l e s (w s + 1) else nxT n l e w s) else nxT n l e w s
theorem nxT_le {n : Nat} {l e : Nat → Int} {w : Nat → Nat} : ∀ z : Nat, ∀ s, s < z → w s < n → nxT n l e w z ≤ buT n l e s (w s + 1)
  | 0, s, hs, _ => by omega
  | z + 1, s, hs, hw => by
    have ih := nxT_le (n := n) (l := l) (e := e) (w := w) z s
    unfold nxT
    by_cases es : s = z
    · subst es
      rw [if_pos hw]
      split <;> omega
    · have := ih (by omega) hw
      split
      · split <;> omega
      · omega
theorem nxT_at {n : Nat} {l e : Nat → Int} {w : Nat → Nat} : ∀ z : Nat, nxT n l e w z = 1000000000 ∨ ∃ s, s < z ∧ w s < n ∧ nxT n l e w z = buT n l e s (w s + 1)
  | 0 => Or.inl rfl
  | z + 1 => by
    have ih := nxT_at (n := n) (l := l) (e := e) (w := w) z
    unfold nxT
    split
    · rename_i c
      split
      · exact Or.inr ⟨z, by omega, c, rfl⟩
      · rcases ih with h | ⟨s, hs, h1, h2⟩
        · exact Or.inl h
        · exact Or.inr ⟨s, by omega, h1, h2⟩
    · rcases ih with h | ⟨s, hs, h1, h2⟩
      · exact Or.inl h
      · exact Or.inr ⟨s, by omega, h1, h2⟩
/-- the bound is raised, and one more turn is within it -/
theorem LoT_next (hz : 0 < z) (he : ∀ s, s < z → 0 ≤ e s) (hb : ∀ s o, s < z → o ≤ n → buT n l e s o < 1000000000) (h : LoT z n l e B) (ht : sN (owT n l e B) z < n) : LoT z n l e (nxT n l e (owT n l e B) z) ∧ sN (owT n l e B) z < sN (owT n l e (nxT n l e (owT n l e B) z)) z ∧ nxT n l e (owT n l e B) z < 1000000000 := by
  obtain ⟨h0, h1, h2⟩ := h
  have low : ∀ s, s < z → owT n l e B s < n := fun s hs => by
    have x := sN_le (f := fun t => if s = t then owT n l e B s else 0) (g := owT n l e B) z (fun t ht => by
      by_cases c : s = t
      · subst c; rw [if_pos rfl]; exact Nat.le_refl _
      · rw [if_neg c]; exact Nat.zero_le _)
    have y : ∀ z : Nat, s < z → owT n l e B s ≤ sN (fun t => if s = t then owT n l e B s else 0) z := fun z => by
      induction z with
      | zero => intro h; omega
      | succ z ih =>
        intro h
        show _ ≤ sN (fun t => if s = t then owT n l e B s else 0) z + (if s = z then owT n l e B s else 0)
        by_cases c : s = z
        · rw [if_pos c]; omega
        · have := ih (by omega); omega
    have := y z hs
    omega
  have up : ∀ s, s < z → B < buT n l e s (owT n l e B s + 1) := fun s hs => owT_out (he s hs) (by omega) (by have := low s hs; omega)
  obtain ⟨s0, hs0, w0, e0⟩ : ∃ s, s < z ∧ owT n l e B s < n ∧ nxT n l e (owT n l e B) z = buT n l e s (owT n l e B s + 1) := by
    rcases nxT_at (n := n) (l := l) (e := e) (w := owT n l e B) z with h | h
    · have x := nxT_le (n := n) (l := l) (e := e) (w := owT n l e B) z 0 hz (low 0 hz)
      have y := hb 0 (owT n l e B 0 + 1) hz (by have := low 0 hz; omega)
      omega
    · exact h
  have hB : B < nxT n l e (owT n l e B) z := by rw [e0]; exact up s0 hs0
  have mono : ∀ s, s < z → owT n l e B s ≤ owT n l e (nxT n l e (owT n l e B) z) s := fun s hs => by
    by_cases c : owT n l e B s ≤ owT n l e (nxT n l e (owT n l e B) z) s
    · exact c
    · have x := owT_out (B := nxT n l e (owT n l e B) z) (he s hs) (show owT n l e (nxT n l e (owT n l e B) z) s < owT n l e B s by omega) (owT_is n l e B s).1
      have y := owT_in (he s hs) (h1 s hs) (Nat.le_refl (owT n l e B s))
      omega
  have more0 : owT n l e B s0 < owT n l e (nxT n l e (owT n l e B) z) s0 := by
    by_cases c : owT n l e B s0 < owT n l e (nxT n l e (owT n l e B) z) s0
    · exact c
    · have x := owT_out (B := nxT n l e (owT n l e B) z) (he s0 hs0) (show owT n l e (nxT n l e (owT n l e B) z) s0 < owT n l e B s0 + 1 by omega) (by omega)
      omega
  refine ⟨⟨by omega, fun s hs => by have := h1 s hs; omega, fun c => ?_⟩, ?_, ?_⟩
  · -- some figure of c comes more often than is within the old bound
    have m := mxT_ge (f := fun s => buT n l e s (cnR z s n c)) z
    by_cases hc : ∀ s, s < z → cnR z s n c ≤ owT n l e B s
    · have x := sN_le z hc
      rw [cnR_sum hz] at x
      omega
    · have hc' : ∃ s, s < z ∧ owT n l e B s < cnR z s n c := by
        refine Classical.byContradiction (fun q => hc (fun s hs => ?_))
        by_cases c : cnR z s n c ≤ owT n l e B s
        · exact c
        · exact absurd ⟨s, hs, by omega⟩ q
      obtain ⟨s, hs, hlt⟩ := hc'
      have y := m.2 s hs
      have u := buT_le (n := n) (l := l) (s := s) (he s hs) (show owT n l e B s + 1 ≤ cnR z s n c by omega)
      have v := nxT_le (n := n) (l := l) (e := e) (w := owT n l e B) z s hs (low s hs)
      show _ ≤ mxT (fun s => buT n l e s (cnR z s n c)) z
      omega
  · have x : ∀ w : Nat, w ≤ z → (s0 < w → sN (owT n l e B) w < sN (owT n l e (nxT n l e (owT n l e B) z)) w) ∧ sN (owT n l e B) w ≤ sN (owT n l e (nxT n l e (owT n l e B) z)) w := fun w => by
      induction w with
      | zero => intro _; exact ⟨fun h => by omega, Nat.le_refl _⟩
      | succ w ih =>
        intro hw
        have i1 := ih (by omega)
        have i2 := mono w (by omega)
        have e1 : sN (owT n l e B) (w + 1) = sN (owT n l e B) w + owT n l e B w := rfl
        have e2 : sN (owT n l e (nxT n l e (owT n l e B) z)) (w + 1) = sN (owT n l e (nxT n l e (owT n l e B) z)) w + owT n l e (nxT n l e (owT n l e B) z) w := rfl
        refine ⟨fun h => ?_, by omega⟩
        by_cases c : s0 = w
        · subst c; omega
        · have := i1.1 (by omega); omega
    exact (x z (Nat.le_refl z)).1 hs0
  · rw [e0]
    exact hb s0 _ hs0 (by omega)
/-- the bound at which there are turns enough: the least, and the first code that has it -/
theorem LoT_end (hz : 0 < z) (he : ∀ s, s < z → 0 ≤ e s) (h : LoT z n l e B) (ht : TtOk z n (owT n l e B) tt) : moT z n l e (grT z tt n) = B ∧ ∀ c, c < grT z tt n → B < moT z n l e c := by
  obtain ⟨h0, h1, h2⟩ := h
  refine ⟨?_, fun c hc => ?_⟩
  · have x := mxT_le (B := B) (f := fun s => buT n l e s (cnR z s n (grT z tt n))) h0 z (fun s hs => owT_in (he s hs) (h1 s hs) (grT_le ht hs))
    have y := h2 (grT z tt n)
    unfold moT at y ⊢
    omega
  · have m := mxT_ge (f := fun s => buT n l e s (cnR z s n c)) z
    by_cases hc2 : ∀ s, s < z → cnR z s n c ≤ owT n l e B s
    · have := grT_first ht n c (Nat.le_refl n) hc2
      omega
    · have hc' : ∃ s, s < z ∧ owT n l e B s < cnR z s n c := by
        refine Classical.byContradiction (fun q => hc2 (fun s hs => ?_))
        by_cases c3 : cnR z s n c ≤ owT n l e B s
        · exact c3
        · exact absurd ⟨s, hs, by omega⟩ q
      obtain ⟨s, hs, hlt⟩ := hc'
      have y := m.2 s hs
      have u := owT_out (B := B) (he s hs) hlt (cnR_le n c)
      show _ < mxT (fun s => buT n l e s (cnR z s n c)) z
      omega
end TurnsA
