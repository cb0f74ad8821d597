/-! READ: words, numbers and stops of a text -/
section Tok
variable {S : List Int} {T : List Sh} {C P N : Nat → Int → Int} {n s e : Nat} {f : Nat → Int} {lo hi v : Int} {h : Hp}
def ruN (lo hi : Int) (f : Nat → Int) : Nat → Nat → Nat
  | 0, i => i
  | k + 1, i => if lo ≤ f i ∧ f i ≤ hi then ruN lo hi f k (i + 1) else i
/-- the first place from i on that is not within lo and hi -/
def ru (lo hi : Int) (f : Nat → Int) (n i : Nat) : Nat := ruN lo hi f (n - i) i
theorem ru_end : ru lo hi f n n = n := by
  unfold ru
  rw [Nat.sub_self]
  rfl
theorem ru_yes {i : Nat} (hi' : i < n) (hc : lo ≤ f i ∧ f i ≤ hi) : ru lo hi f n i = ru lo hi f n (i + 1) := by
  unfold ru
  rw [show n - i = n - (i + 1) + 1 by omega]
  show (if lo ≤ f i ∧ f i ≤ hi then ruN lo hi f (n - (i + 1)) (i + 1) else i) = _
  rw [if_pos hc]
theorem ru_no {i : Nat} (hc : ¬ (lo ≤ f i ∧ f i ≤ hi)) : ru lo hi f n i = i := by
  unfold ru
  cases n - i with
  | zero => rfl
  | succ k => exact if_neg hc
theorem ruN_in : ∀ (k i : Nat), i ≤ ruN lo hi f k i ∧ ruN lo hi f k i ≤ i + k
  | 0, i => ⟨Nat.le_refl i, Nat.le_refl i⟩
  | k + 1, i => by
    have ih := ruN_in k (i + 1)
    unfold ruN
    split <;> omega
theorem ru_in {i : Nat} (hi' : i ≤ n) : i ≤ ru lo hi f n i ∧ ru lo hi f n i ≤ n := by
  have := ruN_in (lo := lo) (hi := hi) (f := f) (n - i) i
  unfold ru
  omega
theorem ruN_at : ∀ (k i j : Nat), i ≤ j → j < ruN lo hi f k i → lo ≤ f j ∧ f j ≤ hi
  | 0, i, j, h1, h2 => by
    have h2 : j < i := h2
    omega
  | k + 1, i, j, h1, h2 => by
    unfold ruN at h2
    by_cases c : lo ≤ f i ∧ f i ≤ hi
    · rw [if_pos c] at h2
      by_cases e : j = i
      · subst e; exact c
      · exact ruN_at k (i + 1) j (by omega) h2
    · rw [if_neg c] at h2
      omega
theorem ru_at {i j : Nat} (h1 : i ≤ j) (h2 : j < ru lo hi f n i) : lo ≤ f j ∧ f j ≤ hi := ruN_at _ i j h1 h2
/-- a text of n bytes, -1 behind them -/
def TxF (n : Nat) (f : Nat → Int) : Prop := n ≤ 150 ∧ (∀ i, i < n → 0 ≤ f i ∧ f i ≤ 127) ∧ (∀ i, n ≤ i → f i = -1)
theorem TxF.i (h : TxF n f) (i : Nat) : -1 ≤ f i ∧ f i ≤ 127 := by
  by_cases c : i < n
  · have := h.2.1 i c; omega
  · have := h.2.2 i (by omega); omega
/-- where the token that begins at s ends -/
def tE (f : Nat → Int) (n s : Nat) : Nat := if 97 ≤ f s ∧ f s ≤ 122 then ru 97 122 f n s else if 48 ≤ f s ∧ f s ≤ 57 then ru 48 57 f n s else if s < n then s + 1 else s
def tK (f : Nat → Int) (n s : Nat) : Int := if s < n then (if 97 ≤ f s ∧ f s ≤ 122 then 1 else if 48 ≤ f s ∧ f s ≤ 57 then (if tE f n s ≤ s + 3 then 2 else 4) else if f s = 59 then 3 else 4) else 0
def vl (f : Nat → Int) (s : Nat) : Nat → Int
  | 0 => 0
  | k + 1 => 10 * vl f s k + f (s + k) - 48
def tS (f : Nat → Int) (n e : Nat) : Nat := ru 32 32 f n e
def tV (f : Nat → Int) (n s : Nat) : Int := vl f s (tE f n s - s)
theorem tS_in (he : e ≤ n) : e ≤ tS f n e ∧ tS f n e ≤ n := ru_in he
theorem tE_in (ht : TxF n f) (hs : s ≤ n) : s ≤ tE f n s ∧ tE f n s ≤ n ∧ (s < n → s < tE f n s) := by
  have x := ht.2.2 s
  unfold tE
  by_cases c1 : 97 ≤ f s ∧ f s ≤ 122
  · rw [if_pos c1]
    have sn : s < n := by
      by_cases c : s < n
      · exact c
      · have := x (by omega); omega
    rw [ru_yes sn c1]
    have := ru_in (lo := 97) (hi := 122) (f := f) (n := n) (i := s + 1) (by omega)
    omega
  · rw [if_neg c1]
    by_cases c2 : 48 ≤ f s ∧ f s ≤ 57
    · rw [if_pos c2]
      have sn : s < n := by
        by_cases c : s < n
        · exact c
        · have := x (by omega); omega
      rw [ru_yes sn c2]
      have := ru_in (lo := 48) (hi := 57) (f := f) (n := n) (i := s + 1) (by omega)
      omega
    · rw [if_neg c2]
      split <;> omega
theorem vl_in : ∀ k : Nat, (∀ j, j < k → 48 ≤ f (s + j) ∧ f (s + j) ≤ 57) → 0 ≤ vl f s k ∧ vl f s k + 1 ≤ ((10 ^ k : Nat) : Int)
  | 0, _ => by
    show (0 : Int) ≤ 0 ∧ (0 : Int) + 1 ≤ ((1 : Nat) : Int)
    omega
  | k + 1, h => by
    have ih := vl_in k (fun j hj => h j (by omega))
    have := h k (by omega)
    rw [Nat.pow_succ, Int.natCast_mul]
    show 0 ≤ 10 * vl f s k + f (s + k) - 48 ∧ 10 * vl f s k + f (s + k) - 48 + 1 ≤ _
    generalize ((10 ^ k : Nat) : Int) = q at *
    omega
theorem vl_999 {k : Nat} (hk : k ≤ 3) (h : ∀ j, j < k → 48 ≤ f (s + j) ∧ f (s + j) ≤ 57) : 0 ≤ vl f s k ∧ vl f s k ≤ 999 := by
  have := vl_in k h
  have p : 10 ^ k ≤ 10 ^ 3 := Nat.pow_le_pow_right (by decide) hk
  have p3 : (10 : Nat) ^ 3 = 1000 := by decide
  rw [p3] at p
  omega
/-- of a number -/
theorem tK_2 (h : tK f n s = 2) : s < n ∧ (48 ≤ f s ∧ f s ≤ 57) ∧ tE f n s = ru 48 57 f n s ∧ tE f n s ≤ s + 3 := by
  unfold tK at h
  by_cases c0 : s < n
  · rw [if_pos c0] at h
    by_cases c1 : 97 ≤ f s ∧ f s ≤ 122
    · rw [if_pos c1] at h; omega
    · rw [if_neg c1] at h
      by_cases c2 : 48 ≤ f s ∧ f s ≤ 57
      · rw [if_pos c2] at h
        have e : tE f n s = ru 48 57 f n s := by unfold tE; rw [if_neg c1, if_pos c2]
        by_cases c3 : tE f n s ≤ s + 3
        · exact ⟨c0, c2, e, c3⟩
        · rw [if_neg c3] at h; omega
      · rw [if_neg c2] at h
        split at h <;> omega
  · rw [if_neg c0] at h; omega
theorem tV_in (h : tK f n s = 2) : 0 ≤ tV f n s ∧ tV f n s ≤ 999 := by
  obtain ⟨h0, h1, h2, h3⟩ := tK_2 h
  refine vl_999 (by omega) (fun j hj => ru_at (n := n) (i := s) (by omega) (by omega))
/-- of a word -/
theorem tK_1 (h : tK f n s = 1) : s < n ∧ (97 ≤ f s ∧ f s ≤ 122) ∧ tE f n s = ru 97 122 f n s := by
  unfold tK at h
  by_cases c0 : s < n
  · rw [if_pos c0] at h
    by_cases c1 : 97 ≤ f s ∧ f s ≤ 122
    · exact ⟨c0, c1, by unfold tE; rw [if_pos c1]⟩
    · rw [if_neg c1] at h
      by_cases c2 : 48 ≤ f s ∧ f s ≤ 57
      · rw [if_pos c2] at h
        split at h <;> omega
      · rw [if_neg c2] at h
        split at h <;> omega
  · rw [if_neg c0] at h; omega
theorem tK_not1 (ht : TxF n f) (h : ¬ tK f n s = 1) : ¬ (97 ≤ f s ∧ f s ≤ 122) := by
  intro c
  apply h
  unfold tK
  by_cases c0 : s < n
  · rw [if_pos c0, if_pos c]
  · have := ht.2.2 s (by omega)
    omega
theorem tK_not2 (ht : TxF n f) (hs : s ≤ n) (h : ¬ tK f n s = 2) : ¬ ((48 ≤ f s ∧ f s ≤ 57) ∧ tE f n s ≤ s + 3) := by
  intro c
  apply h
  unfold tK
  by_cases c0 : s < n
  · rw [if_pos c0, if_neg (by omega), if_pos c.1, if_pos c.2]
  · have := ht.2.2 s (by omega)
    omega
theorem tK_3 (ht : TxF n f) : tK f n s = 3 ↔ f s = 59 := by
  unfold tK
  by_cases c0 : s < n
  · rw [if_pos c0]
    by_cases c1 : 97 ≤ f s ∧ f s ≤ 122
    · rw [if_pos c1]
      omega
    · rw [if_neg c1]
      by_cases c2 : 48 ≤ f s ∧ f s ≤ 57
      · rw [if_pos c2]
        split <;> omega
      · rw [if_neg c2]
        split <;> omega
  · rw [if_neg c0]
    have := ht.2.2 s (by omega)
    omega
theorem tK_0 : tK f n s = 0 ↔ n ≤ s := by
  unfold tK
  by_cases c0 : s < n
  · rw [if_pos c0]
    split
    · omega
    · split
      · split <;> omega
      · split <;> omega
  · rw [if_neg c0]
    omega
theorem tK_in : 0 ≤ tK f n s ∧ tK f n s ≤ 4 := by
  unfold tK
  split
  · split
    · omega
    · split
      · split <;> omega
      · split <;> omega
  · omega
/-! the class -/
theorem c_letY (iv : I32 v) (hc : 97 ≤ v ∧ v ≤ 122) : Cl S 47 [vI v] h (some (vI 1), h) := by
  refine ⟨_, rfl, ?_⟩
  refine Rn.clt rfl (X_ild rfl <| X_i <| X_nil) (by first | omega | (simp (disch := omega) only [um_eq, um_na, um_ni, Int.toNat_natCast]; omega)) (by first | omega | (simp (disch := omega) only [um_eq, um_na, um_ni, Int.toNat_natCast]; omega)) (fun hc => absurd hc (by first | omega | decide | (simp (disch := omega) only [um_eq, um_na, um_ni, Int.toNat_natCast]; omega))) (fun hc => ?_)
  refine Rn.cgt rfl (X_ild rfl <| X_i <| X_nil) (by first | omega | (simp (disch := omega) only [um_eq, um_na, um_ni, Int.toNat_natCast]; omega)) (by first | omega | (simp (disch := omega) only [um_eq, um_na, um_ni, Int.toNat_natCast]; omega)) (fun hc => absurd hc (by first | omega | decide | (simp (disch := omega) only [um_eq, um_na, um_ni, Int.toNat_natCast]; omega))) (fun hc => ?_)
  refine Rn.jto rfl (X_i <| X_nil) ?_
  refine Rn.rz rfl (X_nil) rfl (by first | exact Or.inl rfl | exact Or.inr rfl | omega)
theorem c_letN (iv : I32 v) (hc : ¬ (97 ≤ v ∧ v ≤ 122)) : Cl S 47 [vI v] h (some (vI 0), h) := by
  refine ⟨_, rfl, ?_⟩
  by_cases c : v < 97
  · refine Rn.clt rfl (X_ild rfl <| X_i <| X_nil) (by first | omega | (simp (disch := omega) only [um_eq, um_na, um_ni, Int.toNat_natCast]; omega)) (by first | omega | (simp (disch := omega) only [um_eq, um_na, um_ni, Int.toNat_natCast]; omega)) (fun hc => ?_) (fun hc => absurd hc (by first | omega | decide | (simp (disch := omega) only [um_eq, um_na, um_ni, Int.toNat_natCast]; omega)))
    refine Rn.fal rfl (X_i <| X_nil) ?_
    refine Rn.rz rfl (X_nil) rfl (by first | exact Or.inl rfl | exact Or.inr rfl | omega)
  · refine Rn.clt rfl (X_ild rfl <| X_i <| X_nil) (by first | omega | (simp (disch := omega) only [um_eq, um_na, um_ni, Int.toNat_natCast]; omega)) (by first | omega | (simp (disch := omega) only [um_eq, um_na, um_ni, Int.toNat_natCast]; omega)) (fun hc => absurd hc (by first | omega | decide | (simp (disch := omega) only [um_eq, um_na, um_ni, Int.toNat_natCast]; omega))) (fun hc => ?_)
    refine Rn.cgt rfl (X_ild rfl <| X_i <| X_nil) (by first | omega | (simp (disch := omega) only [um_eq, um_na, um_ni, Int.toNat_natCast]; omega)) (by first | omega | (simp (disch := omega) only [um_eq, um_na, um_ni, Int.toNat_natCast]; omega)) (fun hc => ?_) (fun hc => absurd hc (by first | omega | decide | (simp (disch := omega) only [um_eq, um_na, um_ni, Int.toNat_natCast]; omega)))
    refine Rn.fal rfl (X_i <| X_nil) ?_
    refine Rn.rz rfl (X_nil) rfl (by first | exact Or.inl rfl | exact Or.inr rfl | omega)
theorem c_figY (iv : I32 v) (hc : 48 ≤ v ∧ v ≤ 57) : Cl S 48 [vI v] h (some (vI 1), h) := by
  refine ⟨_, rfl, ?_⟩
  refine Rn.clt rfl (X_ild rfl <| X_i <| X_nil) (by first | omega | (simp (disch := omega) only [um_eq, um_na, um_ni, Int.toNat_natCast]; omega)) (by first | omega | (simp (disch := omega) only [um_eq, um_na, um_ni, Int.toNat_natCast]; omega)) (fun hc => absurd hc (by first | omega | decide | (simp (disch := omega) only [um_eq, um_na, um_ni, Int.toNat_natCast]; omega))) (fun hc => ?_)
  refine Rn.cgt rfl (X_ild rfl <| X_i <| X_nil) (by first | omega | (simp (disch := omega) only [um_eq, um_na, um_ni, Int.toNat_natCast]; omega)) (by first | omega | (simp (disch := omega) only [um_eq, um_na, um_ni, Int.toNat_natCast]; omega)) (fun hc => absurd hc (by first | omega | decide | (simp (disch := omega) only [um_eq, um_na, um_ni, Int.toNat_natCast]; omega))) (fun hc => ?_)
  refine Rn.jto rfl (X_i <| X_nil) ?_
  refine Rn.rz rfl (X_nil) rfl (by first | exact Or.inl rfl | exact Or.inr rfl | omega)
theorem c_figN (iv : I32 v) (hc : ¬ (48 ≤ v ∧ v ≤ 57)) : Cl S 48 [vI v] h (some (vI 0), h) := by
  refine ⟨_, rfl, ?_⟩
  by_cases c : v < 48
  · refine Rn.clt rfl (X_ild rfl <| X_i <| X_nil) (by first | omega | (simp (disch := omega) only [um_eq, um_na, um_ni, Int.toNat_natCast]; omega)) (by first | omega | (simp (disch := omega) only [um_eq, um_na, um_ni, Int.toNat_natCast]; omega)) (fun hc => ?_) (fun hc => absurd hc (by first | omega | decide | (simp (disch := omega) only [um_eq, um_na, um_ni, Int.toNat_natCast]; omega)))
    refine Rn.fal rfl (X_i <| X_nil) ?_
    refine Rn.rz rfl (X_nil) rfl (by first | exact Or.inl rfl | exact Or.inr rfl | omega)
  · refine Rn.clt rfl (X_ild rfl <| X_i <| X_nil) (by first | omega | (simp (disch := omega) only [um_eq, um_na, um_ni, Int.toNat_natCast]; omega)) (by first | omega | (simp (disch := omega) only [um_eq, um_na, um_ni, Int.toNat_natCast]; omega)) (fun hc => absurd hc (by first | omega | decide | (simp (disch := omega) only [um_eq, um_na, um_ni, Int.toNat_natCast]; omega))) (fun hc => ?_)
    refine Rn.cgt rfl (X_ild rfl <| X_i <| X_nil) (by first | omega | (simp (disch := omega) only [um_eq, um_na, um_ni, Int.toNat_natCast]; omega)) (by first | omega | (simp (disch := omega) only [um_eq, um_na, um_ni, Int.toNat_natCast]; omega)) (fun hc => ?_) (fun hc => absurd hc (by first | omega | decide | (simp (disch := omega) only [um_eq, um_na, um_ni, Int.toNat_natCast]; omega)))
    refine Rn.fal rfl (X_i <| X_nil) ?_
    refine Rn.rz rfl (X_nil) rfl (by first | exact Or.inl rfl | exact Or.inr rfl | omega)
/-- the class holds the text -/
def CTx (C : Nat → Int → Int) (n : Nat) (f : Nat → Int) : Prop := C 56 0 = (n : Int) ∧ TxF n f ∧ ∀ i : Nat, i < n → C 57 (i : Int) = f i
theorem CTx.cg (h : CTx C n f) (h0 : P 56 0 = C 56 0) (h57 : P 57 = C 57) : CTx P n f := by
  unfold CTx
  rw [h0, h57]
  exact h
theorem c_takeWord (hX : isX T) (hc : CTx C n f) (hs : s ≤ n) (h5 : C 56 5 = (s : Int)) : ∃ P, Cl S 45 [vR 56] (T, C) (none, (T, P)) ∧ P 56 3 = 1 ∧ P 56 5 = ((ru 97 122 f n s : Nat) : Int) ∧ (∀ k, k ≠ 3 → k ≠ 5 → P 56 k = C 56 k) ∧ (∀ a, a ≠ 56 → P a = C a) := by
  obtain ⟨c0, ht, c57⟩ := hc
  have n150 := ht.1
  have loop : ∀ (k i : Nat) (P : Nat → Int → Int), i + k = n → P 56 3 = 1 → P 56 5 = (i : Int) → (∀ k, k ≠ 3 → k ≠ 5 → P 56 k = C 56 k) → (∀ a, a ≠ 56 → P a = C a) → ∃ P', Rn S 45 5 ([], [some (vR 56)], T, P) (none, (T, P')) ∧ P' 56 3 = 1 ∧ P' 56 5 = ((ru 97 122 f n i : Nat) : Int) ∧ (∀ k, k ≠ 3 → k ≠ 5 → P' 56 k = C 56 k) ∧ (∀ a, a ≠ 56 → P' a = C a) := by
    intro k
    induction k with
    | zero =>
      intro i P hi p3 p5 pk pa
      have ei : i = n := by omega
      subst ei
      have p0 := pk 0 (by decide) (by decide)
      refine ⟨P, ?_, p3, by rw [ru_end]; exact p5, pk, pa⟩
      refine Rn.cge rfl (X_ald rfl <| X_gi 4 5 5 hX.sc ⟨rfl, rfl, rfl⟩ (Or.inl rfl) <| X_ald rfl <| X_gi 4 0 0 hX.sc ⟨rfl, rfl, rfl⟩ (Or.inl rfl) <| X_nil) (by first | omega | (simp (disch := omega) only [um_eq, um_na, um_ni, Int.toNat_natCast]; omega)) (by first | omega | (simp (disch := omega) only [um_eq, um_na, um_ni, Int.toNat_natCast]; omega)) (fun hc => ?_) (fun hc => absurd hc (by first | omega | decide | (simp (disch := omega) only [um_eq, um_na, um_ni, Int.toNat_natCast]; omega)))
      refine Rn.rv rfl (X_nil) rfl
    | succ k ih =>
      intro i P hi p3 p5 pk pa
      have p0 := pk 0 (by decide) (by decide)
      have eb : P 57 (P 56 5) = f i := by rw [p5, pa 57 (by decide)]; exact c57 i (by omega)
      have bi := ht.2.1 i (by omega)
      by_cases c : 97 ≤ f i ∧ f i ≤ 122
      · have cl := c_letY (S := S) (h := (T, P)) (v := P 57 (P 56 5)) (by omega) (by omega)
        obtain ⟨P', r1, r2, r3, r4, r5⟩ := ih (i + 1) (um P 56 5 (P 56 5 + 1)) (by omega) (by rw [um_ni (by decide)]; exact p3) (by rw [um_eq, p5]; omega) (fun k k1 k2 => by rw [um_ni k2]; exact pk k k1 k2) (fun a ha => by rw [um_fn ha]; exact pa a ha)
        refine ⟨P', ?_, r2, by rw [ru_yes (by omega) c]; exact r3, r4, r5⟩
        refine Rn.cge rfl (X_ald rfl <| X_gi 4 5 5 hX.sc ⟨rfl, rfl, rfl⟩ (Or.inl rfl) <| X_ald rfl <| X_gi 4 0 0 hX.sc ⟨rfl, rfl, rfl⟩ (Or.inl rfl) <| X_nil) (by first | omega | (simp (disch := omega) only [um_eq, um_na, um_ni, Int.toNat_natCast]; omega)) (by first | omega | (simp (disch := omega) only [um_eq, um_na, um_ni, Int.toNat_natCast]; omega)) (fun hc => absurd hc (by first | omega | decide | (simp (disch := omega) only [um_eq, um_na, um_ni, Int.toNat_natCast]; omega))) (fun hc => ?_)
        refine Rn.cal rfl (X_ald rfl <| X_gr 4 1 hX.sc ⟨rfl, rfl⟩ rfl rfl <| X_ald rfl <| X_gi 4 5 5 hX.sc ⟨rfl, rfl, rfl⟩ (Or.inl rfl) <| X_ba hX.by' (by decide) (by first | omega | (simp (disch := omega) only [um_eq, um_na, um_ni, Int.toNat_natCast]; omega)) (by first | omega | (simp (disch := omega) only [um_eq, um_na, um_ni, Int.toNat_natCast]; omega)) rfl <| X_nil) (vs := [_]) (rest := []) rfl rfl rfl rfl (cl) ?_
        refine Rn.ieq rfl (X_nil) (by first | omega | (simp (disch := omega) only [um_eq, um_na, um_ni, Int.toNat_natCast]; omega)) (fun hc => absurd hc (by first | omega | decide | (simp (disch := omega) only [um_eq, um_na, um_ni, Int.toNat_natCast]; omega))) (fun hc => ?_)
        refine Rn.jto rfl (X_ald rfl <| X_dupr <| X_gi 4 5 5 hX.sc ⟨rfl, rfl, rfl⟩ (Or.inl rfl) <| X_i <| X_add <| X_pi 4 5 5 hX.sc ⟨rfl, rfl, rfl⟩ (Or.inl rfl) <| X_nil) ?_
        exact r1
      · have cl := c_letN (S := S) (h := (T, P)) (v := P 57 (P 56 5)) (by omega) (by omega)
        refine ⟨P, ?_, p3, by rw [ru_no c]; exact p5, pk, pa⟩
        refine Rn.cge rfl (X_ald rfl <| X_gi 4 5 5 hX.sc ⟨rfl, rfl, rfl⟩ (Or.inl rfl) <| X_ald rfl <| X_gi 4 0 0 hX.sc ⟨rfl, rfl, rfl⟩ (Or.inl rfl) <| X_nil) (by first | omega | (simp (disch := omega) only [um_eq, um_na, um_ni, Int.toNat_natCast]; omega)) (by first | omega | (simp (disch := omega) only [um_eq, um_na, um_ni, Int.toNat_natCast]; omega)) (fun hc => absurd hc (by first | omega | decide | (simp (disch := omega) only [um_eq, um_na, um_ni, Int.toNat_natCast]; omega))) (fun hc => ?_)
        refine Rn.cal rfl (X_ald rfl <| X_gr 4 1 hX.sc ⟨rfl, rfl⟩ rfl rfl <| X_ald rfl <| X_gi 4 5 5 hX.sc ⟨rfl, rfl, rfl⟩ (Or.inl rfl) <| X_ba hX.by' (by decide) (by first | omega | (simp (disch := omega) only [um_eq, um_na, um_ni, Int.toNat_natCast]; omega)) (by first | omega | (simp (disch := omega) only [um_eq, um_na, um_ni, Int.toNat_natCast]; omega)) rfl <| X_nil) (vs := [_]) (rest := []) rfl rfl rfl rfl (cl) ?_
        refine Rn.ieq rfl (X_nil) (by first | omega | (simp (disch := omega) only [um_eq, um_na, um_ni, Int.toNat_natCast]; omega)) (fun hc => ?_) (fun hc => absurd hc (by first | omega | decide | (simp (disch := omega) only [um_eq, um_na, um_ni, Int.toNat_natCast]; omega)))
        refine Rn.rv rfl (X_nil) rfl
  obtain ⟨P, r1, r2, r3, r4, r5⟩ := loop (n - s) s (um C 56 3 1) (by omega) um_eq (by rw [um_ni (by decide)]; exact h5) (fun k k1 k2 => um_ni k1) (fun a ha => um_fn ha)
  refine ⟨P, ⟨_, rfl, ?_⟩, r2, r3, r4, r5⟩
  refine Rn.fal rfl (X_ald rfl <| X_i <| X_pi 4 3 3 hX.sc ⟨rfl, rfl, rfl⟩ (Or.inl rfl) <| X_nil) ?_
  exact r1
theorem c_takeNumber (hX : isX T) (hc : CTx C n f) (hs : s ≤ n) (h4 : C 56 4 = (s : Int)) (h5 : C 56 5 = (s : Int)) : ∃ P, Cl S 46 [vR 56] (T, C) (none, (T, P)) ∧ P 56 3 = (if ru 48 57 f n s ≤ s + 3 then 2 else 4) ∧ P 56 5 = ((ru 48 57 f n s : Nat) : Int) ∧ (ru 48 57 f n s ≤ s + 3 → P 56 6 = vl f s (ru 48 57 f n s - s)) ∧ (∀ k, k ≠ 3 → k ≠ 5 → k ≠ 6 → P 56 k = C 56 k) ∧ (∀ a, a ≠ 56 → P a = C a) := by
  obtain ⟨c0, ht, c57⟩ := hc
  have n150 := ht.1
  have loop : ∀ (k i : Nat) (P : Nat → Int → Int), i + k = n → s ≤ i → P 56 5 = (i : Int) → (i ≤ s + 3 → P 56 6 = vl f s (i - s)) → (∀ k, k ≠ 3 → k ≠ 5 → k ≠ 6 → P 56 k = C 56 k) → (∀ a, a ≠ 56 → P a = C a) → ∃ P', (∀ r, Rn S 46 81 ([], [some (vR 56)], T, P') r → Rn S 46 5 ([], [some (vR 56)], T, P) r) ∧ P' 56 5 = ((ru 48 57 f n i : Nat) : Int) ∧ (ru 48 57 f n i ≤ s + 3 → P' 56 6 = vl f s (ru 48 57 f n i - s)) ∧ (∀ k, k ≠ 3 → k ≠ 5 → k ≠ 6 → P' 56 k = C 56 k) ∧ (∀ a, a ≠ 56 → P' a = C a) := by
    intro k
    induction k with
    | zero =>
      intro i P hi si p5 p6 pk pa
      have ei : i = n := by omega
      subst ei
      have p0 := pk 0 (by decide) (by decide) (by decide)
      refine ⟨P, fun r hr => ?_, by rw [ru_end]; exact p5, by rw [ru_end]; exact p6, pk, pa⟩
      refine Rn.cge rfl (X_ald rfl <| X_gi 4 5 5 hX.sc ⟨rfl, rfl, rfl⟩ (Or.inl rfl) <| X_ald rfl <| X_gi 4 0 0 hX.sc ⟨rfl, rfl, rfl⟩ (Or.inl rfl) <| X_nil) (by first | omega | (simp (disch := omega) only [um_eq, um_na, um_ni, Int.toNat_natCast]; omega)) (by first | omega | (simp (disch := omega) only [um_eq, um_na, um_ni, Int.toNat_natCast]; omega)) (fun hc => ?_) (fun hc => absurd hc (by first | omega | decide | (simp (disch := omega) only [um_eq, um_na, um_ni, Int.toNat_natCast]; omega)))
      exact hr
    | succ k ih =>
      intro i P hi si p5 p6 pk pa
      have p0 := pk 0 (by decide) (by decide) (by decide)
      have p4 := pk 4 (by decide) (by decide) (by decide)
      have eb : P 57 (P 56 5) = f i := by rw [p5, pa 57 (by decide)]; exact c57 i (by omega)
      have bi := ht.2.1 i (by omega)
      by_cases c : 48 ≤ f i ∧ f i ≤ 57
      · have cl := c_figY (S := S) (h := (T, P)) (v := P 57 (P 56 5)) (by omega) (by omega)
        by_cases c3 : i < s + 3
        · obtain ⟨P', r1, r2, r3, r4, r5⟩ := ih (i + 1) (um (um P 56 6 (10 * P 56 6 + P 57 (P 56 5) - 48)) 56 5 (P 56 5 + 1)) (by omega) (by omega) (by rw [um_eq, p5]; omega) (fun _ => by
            rw [um_ni (by decide), um_eq, eb, p6 (by omega), show i + 1 - s = (i - s) + 1 by omega]
            show _ = 10 * vl f s (i - s) + f (s + (i - s)) - 48
            rw [show s + (i - s) = i by omega]) (fun k k1 k2 k3 => by rw [um_ni k2, um_ni k3]; exact pk k k1 k2 k3) (fun a ha => by rw [um_fn ha, um_fn ha]; exact pa a ha)
          refine ⟨P', fun r hr => ?_, by rw [ru_yes (by omega) c]; exact r2, by rw [ru_yes (by omega) c]; exact r3, r4, r5⟩
          have nx := r1 r hr
          refine Rn.cge rfl (X_ald rfl <| X_gi 4 5 5 hX.sc ⟨rfl, rfl, rfl⟩ (Or.inl rfl) <| X_ald rfl <| X_gi 4 0 0 hX.sc ⟨rfl, rfl, rfl⟩ (Or.inl rfl) <| X_nil) (by first | omega | (simp (disch := omega) only [um_eq, um_na, um_ni, Int.toNat_natCast]; omega)) (by first | omega | (simp (disch := omega) only [um_eq, um_na, um_ni, Int.toNat_natCast]; omega)) (fun hc => absurd hc (by first | omega | decide | (simp (disch := omega) only [um_eq, um_na, um_ni, Int.toNat_natCast]; omega))) (fun hc => ?_)
          refine Rn.cal rfl (X_ald rfl <| X_gr 4 1 hX.sc ⟨rfl, rfl⟩ rfl rfl <| X_ald rfl <| X_gi 4 5 5 hX.sc ⟨rfl, rfl, rfl⟩ (Or.inl rfl) <| X_ba hX.by' (by decide) (by first | omega | (simp (disch := omega) only [um_eq, um_na, um_ni, Int.toNat_natCast]; omega)) (by first | omega | (simp (disch := omega) only [um_eq, um_na, um_ni, Int.toNat_natCast]; omega)) rfl <| X_nil) (vs := [_]) (rest := []) rfl rfl rfl rfl (cl) ?_
          refine Rn.ieq rfl (X_nil) (by first | omega | (simp (disch := omega) only [um_eq, um_na, um_ni, Int.toNat_natCast]; omega)) (fun hc => absurd hc (by first | omega | decide | (simp (disch := omega) only [um_eq, um_na, um_ni, Int.toNat_natCast]; omega))) (fun hc => ?_)
          refine Rn.cge rfl (X_ald rfl <| X_gi 4 5 5 hX.sc ⟨rfl, rfl, rfl⟩ (Or.inl rfl) <| X_ald rfl <| X_gi 4 4 4 hX.sc ⟨rfl, rfl, rfl⟩ (Or.inl rfl) <| X_sub <| X_i <| X_nil) (by first | omega | (simp (disch := omega) only [um_eq, um_na, um_ni, Int.toNat_natCast]; omega)) (by first | omega | (simp (disch := omega) only [um_eq, um_na, um_ni, Int.toNat_natCast]; omega)) (fun hc => absurd hc (by first | omega | decide | (simp (disch := omega) only [um_eq, um_na, um_ni, Int.toNat_natCast]; omega))) (fun hc => ?_)
          refine Rn.fal rfl (X_ald rfl <| X_i <| X_ald rfl <| X_gi 4 6 6 hX.sc ⟨rfl, rfl, rfl⟩ (Or.inl rfl) <| X_mul <| X_ald rfl <| X_gr 4 1 hX.sc ⟨rfl, rfl⟩ rfl rfl <| X_ald rfl <| X_gi 4 5 5 hX.sc ⟨rfl, rfl, rfl⟩ (Or.inl rfl) <| X_ba hX.by' (by decide) (by first | omega | (simp (disch := omega) only [um_eq, um_na, um_ni, Int.toNat_natCast]; omega)) (by first | omega | (simp (disch := omega) only [um_eq, um_na, um_ni, Int.toNat_natCast]; omega)) rfl <| X_add <| X_i <| X_sub <| X_pi 4 6 6 hX.sc ⟨rfl, rfl, rfl⟩ (Or.inl rfl) <| X_nil) ?_
          refine Rn.jto rfl (X_ald rfl <| X_dupr <| X_gi 4 5 5 hX.sc ⟨rfl, rfl, rfl⟩ (Or.inl rfl) <| X_i <| X_add <| X_pi 4 5 5 hX.sc ⟨rfl, rfl, rfl⟩ (Or.inl rfl) <| X_nil) ?_
          simp (disch := omega) only [um_ni, ne_eq]
          exact nx
        · obtain ⟨P', r1, r2, r3, r4, r5⟩ := ih (i + 1) (um P 56 5 (P 56 5 + 1)) (by omega) (by omega) (by rw [um_eq, p5]; omega) (fun q => by omega) (fun k k1 k2 k3 => by rw [um_ni k2]; exact pk k k1 k2 k3) (fun a ha => by rw [um_fn ha]; exact pa a ha)
          refine ⟨P', fun r hr => ?_, by rw [ru_yes (by omega) c]; exact r2, by rw [ru_yes (by omega) c]; exact r3, r4, r5⟩
          have nx := r1 r hr
          refine Rn.cge rfl (X_ald rfl <| X_gi 4 5 5 hX.sc ⟨rfl, rfl, rfl⟩ (Or.inl rfl) <| X_ald rfl <| X_gi 4 0 0 hX.sc ⟨rfl, rfl, rfl⟩ (Or.inl rfl) <| X_nil) (by first | omega | (simp (disch := omega) only [um_eq, um_na, um_ni, Int.toNat_natCast]; omega)) (by first | omega | (simp (disch := omega) only [um_eq, um_na, um_ni, Int.toNat_natCast]; omega)) (fun hc => absurd hc (by first | omega | decide | (simp (disch := omega) only [um_eq, um_na, um_ni, Int.toNat_natCast]; omega))) (fun hc => ?_)
          refine Rn.cal rfl (X_ald rfl <| X_gr 4 1 hX.sc ⟨rfl, rfl⟩ rfl rfl <| X_ald rfl <| X_gi 4 5 5 hX.sc ⟨rfl, rfl, rfl⟩ (Or.inl rfl) <| X_ba hX.by' (by decide) (by first | omega | (simp (disch := omega) only [um_eq, um_na, um_ni, Int.toNat_natCast]; omega)) (by first | omega | (simp (disch := omega) only [um_eq, um_na, um_ni, Int.toNat_natCast]; omega)) rfl <| X_nil) (vs := [_]) (rest := []) rfl rfl rfl rfl (cl) ?_
          refine Rn.ieq rfl (X_nil) (by first | omega | (simp (disch := omega) only [um_eq, um_na, um_ni, Int.toNat_natCast]; omega)) (fun hc => absurd hc (by first | omega | decide | (simp (disch := omega) only [um_eq, um_na, um_ni, Int.toNat_natCast]; omega))) (fun hc => ?_)
          refine Rn.cge rfl (X_ald rfl <| X_gi 4 5 5 hX.sc ⟨rfl, rfl, rfl⟩ (Or.inl rfl) <| X_ald rfl <| X_gi 4 4 4 hX.sc ⟨rfl, rfl, rfl⟩ (Or.inl rfl) <| X_sub <| X_i <| X_nil) (by first | omega | (simp (disch := omega) only [um_eq, um_na, um_ni, Int.toNat_natCast]; omega)) (by first | omega | (simp (disch := omega) only [um_eq, um_na, um_ni, Int.toNat_natCast]; omega)) (fun hc => ?_) (fun hc => absurd hc (by first | omega | decide | (simp (disch := omega) only [um_eq, um_na, um_ni, Int.toNat_natCast]; omega)))
          refine Rn.jto rfl (X_ald rfl <| X_dupr <| X_gi 4 5 5 hX.sc ⟨rfl, rfl, rfl⟩ (Or.inl rfl) <| X_i <| X_add <| X_pi 4 5 5 hX.sc ⟨rfl, rfl, rfl⟩ (Or.inl rfl) <| X_nil) ?_
          exact nx
      · have cl := c_figN (S := S) (h := (T, P)) (v := P 57 (P 56 5)) (by omega) (by omega)
        refine ⟨P, fun r hr => ?_, by rw [ru_no c]; exact p5, by rw [ru_no c]; exact p6, pk, pa⟩
        refine Rn.cge rfl (X_ald rfl <| X_gi 4 5 5 hX.sc ⟨rfl, rfl, rfl⟩ (Or.inl rfl) <| X_ald rfl <| X_gi 4 0 0 hX.sc ⟨rfl, rfl, rfl⟩ (Or.inl rfl) <| X_nil) (by first | omega | (simp (disch := omega) only [um_eq, um_na, um_ni, Int.toNat_natCast]; omega)) (by first | omega | (simp (disch := omega) only [um_eq, um_na, um_ni, Int.toNat_natCast]; omega)) (fun hc => absurd hc (by first | omega | decide | (simp (disch := omega) only [um_eq, um_na, um_ni, Int.toNat_natCast]; omega))) (fun hc => ?_)
        refine Rn.cal rfl (X_ald rfl <| X_gr 4 1 hX.sc ⟨rfl, rfl⟩ rfl rfl <| X_ald rfl <| X_gi 4 5 5 hX.sc ⟨rfl, rfl, rfl⟩ (Or.inl rfl) <| X_ba hX.by' (by decide) (by first | omega | (simp (disch := omega) only [um_eq, um_na, um_ni, Int.toNat_natCast]; omega)) (by first | omega | (simp (disch := omega) only [um_eq, um_na, um_ni, Int.toNat_natCast]; omega)) rfl <| X_nil) (vs := [_]) (rest := []) rfl rfl rfl rfl (cl) ?_
        refine Rn.ieq rfl (X_nil) (by first | omega | (simp (disch := omega) only [um_eq, um_na, um_ni, Int.toNat_natCast]; omega)) (fun hc => ?_) (fun hc => absurd hc (by first | omega | decide | (simp (disch := omega) only [um_eq, um_na, um_ni, Int.toNat_natCast]; omega)))
        exact hr
  obtain ⟨P, r1, r2, r3, r4, r5⟩ := loop (n - s) s (um C 56 6 0) (by omega) (Nat.le_refl s) (by rw [um_ni (by decide)]; exact h5) (fun _ => by
    rw [um_eq, Nat.sub_self]
    rfl) (fun k k1 k2 k3 => um_ni k3) (fun a ha => um_fn ha)
  have p4 := r4 4 (by decide) (by decide) (by decide)
  have ri := ru_in (lo := 48) (hi := 57) (f := f) hs
  by_cases c : ru 48 57 f n s ≤ s + 3
  · refine ⟨um P 56 3 2, ⟨_, rfl, ?_⟩, by rw [um_eq, if_pos c], by rw [um_ni (by decide)]; exact r2, by rw [um_ni (by decide)]; exact r3, fun k k1 k2 k3 => by rw [um_ni k1]; exact r4 k k1 k2 k3, fun a ha => by rw [um_fn ha]; exact r5 a ha⟩
    refine Rn.fal rfl (X_ald rfl <| X_i <| X_pi 4 6 6 hX.sc ⟨rfl, rfl, rfl⟩ (Or.inl rfl) <| X_nil) ?_
    refine r1 _ ?_
    refine Rn.cgt rfl (X_ald rfl <| X_ald rfl <| X_gi 4 5 5 hX.sc ⟨rfl, rfl, rfl⟩ (Or.inl rfl) <| X_ald rfl <| X_gi 4 4 4 hX.sc ⟨rfl, rfl, rfl⟩ (Or.inl rfl) <| X_sub <| X_i <| X_nil) (by first | omega | (simp (disch := omega) only [um_eq, um_na, um_ni, Int.toNat_natCast]; omega)) (by first | omega | (simp (disch := omega) only [um_eq, um_na, um_ni, Int.toNat_natCast]; omega)) (fun hc => absurd hc (by first | omega | decide | (simp (disch := omega) only [um_eq, um_na, um_ni, Int.toNat_natCast]; omega))) (fun hc => ?_)
    refine Rn.jto rfl (X_i <| X_nil) ?_
    refine Rn.rv rfl (X_pi 4 3 3 hX.sc ⟨rfl, rfl, rfl⟩ (Or.inl rfl) <| X_nil) rfl
  · refine ⟨um P 56 3 4, ⟨_, rfl, ?_⟩, by rw [um_eq, if_neg c], by rw [um_ni (by decide)]; exact r2, fun q => absurd q c, fun k k1 k2 k3 => by rw [um_ni k1]; exact r4 k k1 k2 k3, fun a ha => by rw [um_fn ha]; exact r5 a ha⟩
    refine Rn.fal rfl (X_ald rfl <| X_i <| X_pi 4 6 6 hX.sc ⟨rfl, rfl, rfl⟩ (Or.inl rfl) <| X_nil) ?_
    refine r1 _ ?_
    refine Rn.cgt rfl (X_ald rfl <| X_ald rfl <| X_gi 4 5 5 hX.sc ⟨rfl, rfl, rfl⟩ (Or.inl rfl) <| X_ald rfl <| X_gi 4 4 4 hX.sc ⟨rfl, rfl, rfl⟩ (Or.inl rfl) <| X_sub <| X_i <| X_nil) (by first | omega | (simp (disch := omega) only [um_eq, um_na, um_ni, Int.toNat_natCast]; omega)) (by first | omega | (simp (disch := omega) only [um_eq, um_na, um_ni, Int.toNat_natCast]; omega)) (fun hc => ?_) (fun hc => absurd hc (by first | omega | decide | (simp (disch := omega) only [um_eq, um_na, um_ni, Int.toNat_natCast]; omega)))
    refine Rn.fal rfl (X_i <| X_nil) ?_
    refine Rn.rv rfl (X_pi 4 3 3 hX.sc ⟨rfl, rfl, rfl⟩ (Or.inl rfl) <| X_nil) rfl
/-- the class's next token -/
theorem c_next (hX : isX T) (hc : CTx C n f) (he : e ≤ n) (h5 : C 56 5 = (e : Int)) : ∃ P, Cl S 44 [vR 56] (T, C) (none, (T, P)) ∧ P 56 3 = tK f n (tS f n e) ∧ P 56 4 = ((tS f n e : Nat) : Int) ∧ P 56 5 = ((tE f n (tS f n e) : Nat) : Int) ∧ (tK f n (tS f n e) = 2 → P 56 6 = tV f n (tS f n e)) ∧ P 56 0 = C 56 0 ∧ (∀ a, a ≠ 56 → P a = C a) := by
  obtain ⟨c0, ht, c57⟩ := id hc
  have n150 := ht.1
  have loop : ∀ (k i : Nat) (P : Nat → Int → Int), i + k = n → P 56 4 = (i : Int) → P 56 0 = C 56 0 → (∀ a, a ≠ 56 → P a = C a) → ∃ P', (∀ r, Rn S 44 46 ([], [some (vR 56)], T, P') r → Rn S 44 8 ([], [some (vR 56)], T, P) r) ∧ P' 56 4 = ((ru 32 32 f n i : Nat) : Int) ∧ P' 56 0 = C 56 0 ∧ (∀ a, a ≠ 56 → P' a = C a) := by
    intro k
    induction k with
    | zero =>
      intro i P hi p4 p0 pa
      have ei : i = n := by omega
      subst ei
      refine ⟨P, fun r hr => ?_, by rw [ru_end]; exact p4, p0, pa⟩
      refine Rn.cge rfl (X_ald rfl <| X_gi 4 4 4 hX.sc ⟨rfl, rfl, rfl⟩ (Or.inl rfl) <| X_ald rfl <| X_gi 4 0 0 hX.sc ⟨rfl, rfl, rfl⟩ (Or.inl rfl) <| X_nil) (by first | omega | (simp (disch := omega) only [um_eq, um_na, um_ni, Int.toNat_natCast]; omega)) (by first | omega | (simp (disch := omega) only [um_eq, um_na, um_ni, Int.toNat_natCast]; omega)) (fun hc => ?_) (fun hc => absurd hc (by first | omega | decide | (simp (disch := omega) only [um_eq, um_na, um_ni, Int.toNat_natCast]; omega)))
      exact hr
    | succ k ih =>
      intro i P hi p4 p0 pa
      have eb : P 57 (P 56 4) = f i := by rw [p4, pa 57 (by decide)]; exact c57 i (by omega)
      have bi := ht.2.1 i (by omega)
      by_cases c : 32 ≤ f i ∧ f i ≤ 32
      · obtain ⟨P', r1, r2, r3, r4⟩ := ih (i + 1) (um P 56 4 (P 56 4 + 1)) (by omega) (by rw [um_eq, p4]; omega) (by rw [um_ni (by decide)]; exact p0) (fun a ha => by rw [um_fn ha]; exact pa a ha)
        refine ⟨P', fun r hr => ?_, by rw [ru_yes (by omega) c]; exact r2, r3, r4⟩
        have nx := r1 r hr
        refine Rn.cge rfl (X_ald rfl <| X_gi 4 4 4 hX.sc ⟨rfl, rfl, rfl⟩ (Or.inl rfl) <| X_ald rfl <| X_gi 4 0 0 hX.sc ⟨rfl, rfl, rfl⟩ (Or.inl rfl) <| X_nil) (by first | omega | (simp (disch := omega) only [um_eq, um_na, um_ni, Int.toNat_natCast]; omega)) (by first | omega | (simp (disch := omega) only [um_eq, um_na, um_ni, Int.toNat_natCast]; omega)) (fun hc => absurd hc (by first | omega | decide | (simp (disch := omega) only [um_eq, um_na, um_ni, Int.toNat_natCast]; omega))) (fun hc => ?_)
        refine Rn.cne rfl (X_ald rfl <| X_gr 4 1 hX.sc ⟨rfl, rfl⟩ rfl rfl <| X_ald rfl <| X_gi 4 4 4 hX.sc ⟨rfl, rfl, rfl⟩ (Or.inl rfl) <| X_ba hX.by' (by decide) (by first | omega | (simp (disch := omega) only [um_eq, um_na, um_ni, Int.toNat_natCast]; omega)) (by first | omega | (simp (disch := omega) only [um_eq, um_na, um_ni, Int.toNat_natCast]; omega)) rfl <| X_i <| X_nil) (by first | omega | (simp (disch := omega) only [um_eq, um_na, um_ni, Int.toNat_natCast]; omega)) (by first | omega | (simp (disch := omega) only [um_eq, um_na, um_ni, Int.toNat_natCast]; omega)) (fun hc => absurd hc (by first | omega | decide | (simp (disch := omega) only [um_eq, um_na, um_ni, Int.toNat_natCast]; omega))) (fun hc => ?_)
        refine Rn.jto rfl (X_ald rfl <| X_dupr <| X_gi 4 4 4 hX.sc ⟨rfl, rfl, rfl⟩ (Or.inl rfl) <| X_i <| X_add <| X_pi 4 4 4 hX.sc ⟨rfl, rfl, rfl⟩ (Or.inl rfl) <| X_nil) ?_
        exact nx
      · refine ⟨P, fun r hr => ?_, by rw [ru_no c]; exact p4, p0, pa⟩
        refine Rn.cge rfl (X_ald rfl <| X_gi 4 4 4 hX.sc ⟨rfl, rfl, rfl⟩ (Or.inl rfl) <| X_ald rfl <| X_gi 4 0 0 hX.sc ⟨rfl, rfl, rfl⟩ (Or.inl rfl) <| X_nil) (by first | omega | (simp (disch := omega) only [um_eq, um_na, um_ni, Int.toNat_natCast]; omega)) (by first | omega | (simp (disch := omega) only [um_eq, um_na, um_ni, Int.toNat_natCast]; omega)) (fun hc => absurd hc (by first | omega | decide | (simp (disch := omega) only [um_eq, um_na, um_ni, Int.toNat_natCast]; omega))) (fun hc => ?_)
        refine Rn.cne rfl (X_ald rfl <| X_gr 4 1 hX.sc ⟨rfl, rfl⟩ rfl rfl <| X_ald rfl <| X_gi 4 4 4 hX.sc ⟨rfl, rfl, rfl⟩ (Or.inl rfl) <| X_ba hX.by' (by decide) (by first | omega | (simp (disch := omega) only [um_eq, um_na, um_ni, Int.toNat_natCast]; omega)) (by first | omega | (simp (disch := omega) only [um_eq, um_na, um_ni, Int.toNat_natCast]; omega)) rfl <| X_i <| X_nil) (by first | omega | (simp (disch := omega) only [um_eq, um_na, um_ni, Int.toNat_natCast]; omega)) (by first | omega | (simp (disch := omega) only [um_eq, um_na, um_ni, Int.toNat_natCast]; omega)) (fun hc => ?_) (fun hc => absurd hc (by first | omega | decide | (simp (disch := omega) only [um_eq, um_na, um_ni, Int.toNat_natCast]; omega)))
        exact hr
  obtain ⟨P, r1, r2, r3, r4⟩ := loop (n - e) e (um C 56 4 (C 56 5)) (by omega) (by rw [um_eq]; exact h5) (um_ni (by decide)) (fun a ha => um_fn ha)
  have si : e ≤ tS f n e ∧ tS f n e ≤ n := ru_in he
  have r2 : P 56 4 = ((tS f n e : Nat) : Int) := r2
  generalize tS f n e = s at *
  have q4 : um P 56 5 (P 56 4) 56 4 = (s : Int) := by rw [um_ni (by decide)]; exact r2
  have q5 : um P 56 5 (P 56 4) 56 5 = (s : Int) := by rw [um_eq]; exact r2
  have q0 : um P 56 5 (P 56 4) 56 0 = (n : Int) := by rw [um_ni (by decide), r3]; exact c0
  have qa : ∀ a, a ≠ 56 → um P 56 5 (P 56 4) a = C a := fun a ha => by rw [um_fn ha]; exact r4 a ha
  have qc : CTx (um P 56 5 (P 56 4)) n f := hc.cg (by rw [q0, c0]) (qa 57 (by decide))
  have start : ∀ P', Rn S 44 46 ([], [some (vR 56)], T, P) (none, (T, P')) → Cl S 44 [vR 56] (T, C) (none, (T, P')) := fun P' hr => by
    refine ⟨_, rfl, ?_⟩
    refine Rn.fal rfl (X_ald rfl <| X_ald rfl <| X_gi 4 5 5 hX.sc ⟨rfl, rfl, rfl⟩ (Or.inl rfl) <| X_pi 4 4 4 hX.sc ⟨rfl, rfl, rfl⟩ (Or.inl rfl) <| X_nil) ?_
    exact r1 _ hr
  by_cases c1 : s < n
  case neg =>
    have ek : tK f n s = 0 := tK_0.mpr (by omega)
    have fs := ht.2.2 s (by omega)
    have ee : tE f n s = s := by unfold tE; rw [if_neg (by omega), if_neg (by omega), if_neg c1]
    refine ⟨um (um P 56 5 (P 56 4)) 56 3 0, start _ ?_, by rw [um_eq, ek], by rw [um_ni (by decide)]; exact q4, by rw [um_ni (by decide), ee]; exact q5, fun q => by omega, by rw [um_ni (by decide), q0, c0], fun a ha => by rw [um_fn ha]; exact qa a ha⟩
    refine Rn.clt rfl (X_ald rfl <| X_ald rfl <| X_gi 4 4 4 hX.sc ⟨rfl, rfl, rfl⟩ (Or.inl rfl) <| X_pi 4 5 5 hX.sc ⟨rfl, rfl, rfl⟩ (Or.inl rfl) <| X_ald rfl <| X_gi 4 4 4 hX.sc ⟨rfl, rfl, rfl⟩ (Or.inl rfl) <| X_ald rfl <| X_gi 4 0 0 hX.sc ⟨rfl, rfl, rfl⟩ (Or.inl rfl) <| X_nil) (by first | omega | (simp (disch := omega) only [um_eq, um_na, um_ni, Int.toNat_natCast]; omega)) (by first | omega | (simp (disch := omega) only [um_eq, um_na, um_ni, Int.toNat_natCast]; omega)) (fun hc => absurd hc (by first | omega | decide | (simp (disch := omega) only [um_eq, um_na, um_ni, Int.toNat_natCast]; omega))) (fun hc => ?_)
    refine Rn.jto rfl (X_ald rfl <| X_i <| X_pi 4 3 3 hX.sc ⟨rfl, rfl, rfl⟩ (Or.inl rfl) <| X_nil) ?_
    refine Rn.rv rfl (X_nil) rfl
  generalize hQ : um P 56 5 (P 56 4) = Q at *
  have eb : Q 57 (Q 56 4) = f s := by rw [q4, qa 57 (by decide)]; exact c57 s c1
  have bs := ht.2.1 s c1
  by_cases c2 : 97 ≤ f s ∧ f s ≤ 122
  · have ek : tK f n s = 1 := by unfold tK; rw [if_pos c1, if_pos c2]
    have ee : tE f n s = ru 97 122 f n s := by unfold tE; rw [if_pos c2]
    have cl := c_letY (S := S) (h := (T, Q)) (v := Q 57 (Q 56 4)) (by omega) (by omega)
    obtain ⟨P', ct, t3, t5, tk, ta⟩ := c_takeWord (S := S) hX qc (by omega) q5
    refine ⟨P', start _ ?_, by rw [t3, ek], by rw [tk 4 (by decide) (by decide)]; exact q4, by rw [t5, ee], fun q => by omega, by rw [tk 0 (by decide) (by decide), q0, c0], fun a ha => by rw [ta a ha]; exact qa a ha⟩
    refine Rn.clt rfl (X_ald rfl <| X_ald rfl <| X_gi 4 4 4 hX.sc ⟨rfl, rfl, rfl⟩ (Or.inl rfl) <| X_pi 4 5 5 hX.sc ⟨rfl, rfl, rfl⟩ (Or.inl rfl) <| X_ald rfl <| X_gi 4 4 4 hX.sc ⟨rfl, rfl, rfl⟩ (Or.inl rfl) <| X_ald rfl <| X_gi 4 0 0 hX.sc ⟨rfl, rfl, rfl⟩ (Or.inl rfl) <| X_nil) (by rw [hQ]; omega) (by rw [hQ]; omega) (fun hc => ?_) (fun hc => ?_)
    · rw [hQ]
      refine Rn.cal rfl (X_ald rfl <| X_gr 4 1 hX.sc ⟨rfl, rfl⟩ rfl rfl <| X_ald rfl <| X_gi 4 4 4 hX.sc ⟨rfl, rfl, rfl⟩ (Or.inl rfl) <| X_ba hX.by' (by decide) (by first | omega | (simp (disch := omega) only [um_eq, um_na, um_ni, Int.toNat_natCast]; omega)) (by first | omega | (simp (disch := omega) only [um_eq, um_na, um_ni, Int.toNat_natCast]; omega)) rfl <| X_nil) (vs := [_]) (rest := []) rfl rfl rfl rfl (cl) ?_
      refine Rn.ieq rfl (X_nil) (by first | omega | (simp (disch := omega) only [um_eq, um_na, um_ni, Int.toNat_natCast]; omega)) (fun hc => absurd hc (by first | omega | decide | (simp (disch := omega) only [um_eq, um_na, um_ni, Int.toNat_natCast]; omega))) (fun hc => ?_)
      refine Rn.cal rfl (X_ald rfl <| X_nil) (vs := [_]) (rest := []) rfl rfl rfl (rcv_v hX.sc (by decide)) (ct) ?_
      refine Rn.jto rfl (X_nil) ?_
      refine Rn.rv rfl (X_nil) rfl
    · exact absurd hc (by rw [hQ]; omega)
  · have cl := c_letN (S := S) (h := (T, Q)) (v := Q 57 (Q 56 4)) (by omega) (by omega)
    by_cases c3 : 48 ≤ f s ∧ f s ≤ 57
    · have ee : tE f n s = ru 48 57 f n s := by unfold tE; rw [if_neg c2, if_pos c3]
      have cf := c_figY (S := S) (h := (T, Q)) (v := Q 57 (Q 56 4)) (by omega) (by omega)
      obtain ⟨P', ct, t3, t5, t6, tk, ta⟩ := c_takeNumber (S := S) hX qc (by omega) q4 q5
      have ek : tK f n s = if ru 48 57 f n s ≤ s + 3 then 2 else 4 := by unfold tK; rw [if_pos c1, if_neg c2, if_pos c3, ee]
      refine ⟨P', start _ ?_, by rw [t3, ek], by rw [tk 4 (by decide) (by decide) (by decide)]; exact q4, by rw [t5, ee], fun q => ?_, by rw [tk 0 (by decide) (by decide) (by decide), q0, c0], fun a ha => by rw [ta a ha]; exact qa a ha⟩
      · refine Rn.clt rfl (X_ald rfl <| X_ald rfl <| X_gi 4 4 4 hX.sc ⟨rfl, rfl, rfl⟩ (Or.inl rfl) <| X_pi 4 5 5 hX.sc ⟨rfl, rfl, rfl⟩ (Or.inl rfl) <| X_ald rfl <| X_gi 4 4 4 hX.sc ⟨rfl, rfl, rfl⟩ (Or.inl rfl) <| X_ald rfl <| X_gi 4 0 0 hX.sc ⟨rfl, rfl, rfl⟩ (Or.inl rfl) <| X_nil) (by rw [hQ]; omega) (by rw [hQ]; omega) (fun hc => ?_) (fun hc => ?_)
        · rw [hQ]
          refine Rn.cal rfl (X_ald rfl <| X_gr 4 1 hX.sc ⟨rfl, rfl⟩ rfl rfl <| X_ald rfl <| X_gi 4 4 4 hX.sc ⟨rfl, rfl, rfl⟩ (Or.inl rfl) <| X_ba hX.by' (by decide) (by first | omega | (simp (disch := omega) only [um_eq, um_na, um_ni, Int.toNat_natCast]; omega)) (by first | omega | (simp (disch := omega) only [um_eq, um_na, um_ni, Int.toNat_natCast]; omega)) rfl <| X_nil) (vs := [_]) (rest := []) rfl rfl rfl rfl (cl) ?_
          refine Rn.ieq rfl (X_nil) (by first | omega | (simp (disch := omega) only [um_eq, um_na, um_ni, Int.toNat_natCast]; omega)) (fun hc => ?_) (fun hc => absurd hc (by first | omega | decide | (simp (disch := omega) only [um_eq, um_na, um_ni, Int.toNat_natCast]; omega)))
          refine Rn.cal rfl (X_ald rfl <| X_gr 4 1 hX.sc ⟨rfl, rfl⟩ rfl rfl <| X_ald rfl <| X_gi 4 4 4 hX.sc ⟨rfl, rfl, rfl⟩ (Or.inl rfl) <| X_ba hX.by' (by decide) (by first | omega | (simp (disch := omega) only [um_eq, um_na, um_ni, Int.toNat_natCast]; omega)) (by first | omega | (simp (disch := omega) only [um_eq, um_na, um_ni, Int.toNat_natCast]; omega)) rfl <| X_nil) (vs := [_]) (rest := []) rfl rfl rfl rfl (cf) ?_
          refine Rn.ieq rfl (X_nil) (by first | omega | (simp (disch := omega) only [um_eq, um_na, um_ni, Int.toNat_natCast]; omega)) (fun hc => absurd hc (by first | omega | decide | (simp (disch := omega) only [um_eq, um_na, um_ni, Int.toNat_natCast]; omega))) (fun hc => ?_)
          refine Rn.cal rfl (X_ald rfl <| X_nil) (vs := [_]) (rest := []) rfl rfl rfl (rcv_v hX.sc (by decide)) (ct) ?_
          refine Rn.jto rfl (X_nil) ?_
          refine Rn.rv rfl (X_nil) rfl
        · exact absurd hc (by rw [hQ]; omega)
      · rw [ek] at q
        unfold tV
        rw [ee]
        exact t6 (by split at q <;> omega)
    · have cf := c_figN (S := S) (h := (T, Q)) (v := Q 57 (Q 56 4)) (by omega) (by omega)
      have ee : tE f n s = s + 1 := by unfold tE; rw [if_neg c2, if_neg c3, if_pos c1]
      by_cases c4 : f s = 59
      · have ek : tK f n s = 3 := (tK_3 ht).mpr c4
        refine ⟨um (um Q 56 3 3) 56 5 (Q 56 4 + 1), start _ ?_, by rw [um_ni (by decide), um_eq, ek], by rw [um_ni (by decide), um_ni (by decide)]; exact q4, by rw [um_eq, q4, ee]; omega, fun q => by omega, by rw [um_ni (by decide), um_ni (by decide), q0, c0], fun a ha => by rw [um_fn ha, um_fn ha]; exact qa a ha⟩
        refine Rn.clt rfl (X_ald rfl <| X_ald rfl <| X_gi 4 4 4 hX.sc ⟨rfl, rfl, rfl⟩ (Or.inl rfl) <| X_pi 4 5 5 hX.sc ⟨rfl, rfl, rfl⟩ (Or.inl rfl) <| X_ald rfl <| X_gi 4 4 4 hX.sc ⟨rfl, rfl, rfl⟩ (Or.inl rfl) <| X_ald rfl <| X_gi 4 0 0 hX.sc ⟨rfl, rfl, rfl⟩ (Or.inl rfl) <| X_nil) (by rw [hQ]; omega) (by rw [hQ]; omega) (fun hc => ?_) (fun hc => ?_)
        · rw [hQ]
          refine Rn.cal rfl (X_ald rfl <| X_gr 4 1 hX.sc ⟨rfl, rfl⟩ rfl rfl <| X_ald rfl <| X_gi 4 4 4 hX.sc ⟨rfl, rfl, rfl⟩ (Or.inl rfl) <| X_ba hX.by' (by decide) (by first | omega | (simp (disch := omega) only [um_eq, um_na, um_ni, Int.toNat_natCast]; omega)) (by first | omega | (simp (disch := omega) only [um_eq, um_na, um_ni, Int.toNat_natCast]; omega)) rfl <| X_nil) (vs := [_]) (rest := []) rfl rfl rfl rfl (cl) ?_
          refine Rn.ieq rfl (X_nil) (by first | omega | (simp (disch := omega) only [um_eq, um_na, um_ni, Int.toNat_natCast]; omega)) (fun hc => ?_) (fun hc => absurd hc (by first | omega | decide | (simp (disch := omega) only [um_eq, um_na, um_ni, Int.toNat_natCast]; omega)))
          refine Rn.cal rfl (X_ald rfl <| X_gr 4 1 hX.sc ⟨rfl, rfl⟩ rfl rfl <| X_ald rfl <| X_gi 4 4 4 hX.sc ⟨rfl, rfl, rfl⟩ (Or.inl rfl) <| X_ba hX.by' (by decide) (by first | omega | (simp (disch := omega) only [um_eq, um_na, um_ni, Int.toNat_natCast]; omega)) (by first | omega | (simp (disch := omega) only [um_eq, um_na, um_ni, Int.toNat_natCast]; omega)) rfl <| X_nil) (vs := [_]) (rest := []) rfl rfl rfl rfl (cf) ?_
          refine Rn.ieq rfl (X_nil) (by first | omega | (simp (disch := omega) only [um_eq, um_na, um_ni, Int.toNat_natCast]; omega)) (fun hc => ?_) (fun hc => absurd hc (by first | omega | decide | (simp (disch := omega) only [um_eq, um_na, um_ni, Int.toNat_natCast]; omega)))
          refine Rn.cne rfl (X_ald rfl <| X_ald rfl <| X_gr 4 1 hX.sc ⟨rfl, rfl⟩ rfl rfl <| X_ald rfl <| X_gi 4 4 4 hX.sc ⟨rfl, rfl, rfl⟩ (Or.inl rfl) <| X_ba hX.by' (by decide) (by first | omega | (simp (disch := omega) only [um_eq, um_na, um_ni, Int.toNat_natCast]; omega)) (by first | omega | (simp (disch := omega) only [um_eq, um_na, um_ni, Int.toNat_natCast]; omega)) rfl <| X_i <| X_nil) (by first | omega | (simp (disch := omega) only [um_eq, um_na, um_ni, Int.toNat_natCast]; omega)) (by first | omega | (simp (disch := omega) only [um_eq, um_na, um_ni, Int.toNat_natCast]; omega)) (fun hc => absurd hc (by first | omega | decide | (simp (disch := omega) only [um_eq, um_na, um_ni, Int.toNat_natCast]; omega))) (fun hc => ?_)
          refine Rn.jto rfl (X_i <| X_nil) ?_
          have fin : Rn S 44 137 ([vI 3, vR 56], [some (vR 56)], T, Q) (none, (T, um (um Q 56 3 3) 56 5 (um Q 56 3 3 56 4 + 1))) := by
            refine Rn.fal rfl (X_pi 4 3 3 hX.sc ⟨rfl, rfl, rfl⟩ (Or.inl rfl) <| X_ald rfl <| X_ald rfl <| X_gi 4 4 4 hX.sc ⟨rfl, rfl, rfl⟩ (Or.inl rfl) <| X_i <| X_add <| X_pi 4 5 5 hX.sc ⟨rfl, rfl, rfl⟩ (Or.inl rfl) <| X_nil) ?_
            refine Rn.rv rfl (X_nil) rfl
          rw [um_ni (by decide)] at fin
          exact fin
        · exact absurd hc (by rw [hQ]; omega)
      · have ek : tK f n s = 4 := by unfold tK; rw [if_pos c1, if_neg c2, if_neg c3, if_neg c4]
        refine ⟨um (um Q 56 3 4) 56 5 (Q 56 4 + 1), start _ ?_, by rw [um_ni (by decide), um_eq, ek], by rw [um_ni (by decide), um_ni (by decide)]; exact q4, by rw [um_eq, q4, ee]; omega, fun q => by omega, by rw [um_ni (by decide), um_ni (by decide), q0, c0], fun a ha => by rw [um_fn ha, um_fn ha]; exact qa a ha⟩
        refine Rn.clt rfl (X_ald rfl <| X_ald rfl <| X_gi 4 4 4 hX.sc ⟨rfl, rfl, rfl⟩ (Or.inl rfl) <| X_pi 4 5 5 hX.sc ⟨rfl, rfl, rfl⟩ (Or.inl rfl) <| X_ald rfl <| X_gi 4 4 4 hX.sc ⟨rfl, rfl, rfl⟩ (Or.inl rfl) <| X_ald rfl <| X_gi 4 0 0 hX.sc ⟨rfl, rfl, rfl⟩ (Or.inl rfl) <| X_nil) (by rw [hQ]; omega) (by rw [hQ]; omega) (fun hc => ?_) (fun hc => ?_)
        · rw [hQ]
          refine Rn.cal rfl (X_ald rfl <| X_gr 4 1 hX.sc ⟨rfl, rfl⟩ rfl rfl <| X_ald rfl <| X_gi 4 4 4 hX.sc ⟨rfl, rfl, rfl⟩ (Or.inl rfl) <| X_ba hX.by' (by decide) (by first | omega | (simp (disch := omega) only [um_eq, um_na, um_ni, Int.toNat_natCast]; omega)) (by first | omega | (simp (disch := omega) only [um_eq, um_na, um_ni, Int.toNat_natCast]; omega)) rfl <| X_nil) (vs := [_]) (rest := []) rfl rfl rfl rfl (cl) ?_
          refine Rn.ieq rfl (X_nil) (by first | omega | (simp (disch := omega) only [um_eq, um_na, um_ni, Int.toNat_natCast]; omega)) (fun hc => ?_) (fun hc => absurd hc (by first | omega | decide | (simp (disch := omega) only [um_eq, um_na, um_ni, Int.toNat_natCast]; omega)))
          refine Rn.cal rfl (X_ald rfl <| X_gr 4 1 hX.sc ⟨rfl, rfl⟩ rfl rfl <| X_ald rfl <| X_gi 4 4 4 hX.sc ⟨rfl, rfl, rfl⟩ (Or.inl rfl) <| X_ba hX.by' (by decide) (by first | omega | (simp (disch := omega) only [um_eq, um_na, um_ni, Int.toNat_natCast]; omega)) (by first | omega | (simp (disch := omega) only [um_eq, um_na, um_ni, Int.toNat_natCast]; omega)) rfl <| X_nil) (vs := [_]) (rest := []) rfl rfl rfl rfl (cf) ?_
          refine Rn.ieq rfl (X_nil) (by first | omega | (simp (disch := omega) only [um_eq, um_na, um_ni, Int.toNat_natCast]; omega)) (fun hc => ?_) (fun hc => absurd hc (by first | omega | decide | (simp (disch := omega) only [um_eq, um_na, um_ni, Int.toNat_natCast]; omega)))
          refine Rn.cne rfl (X_ald rfl <| X_ald rfl <| X_gr 4 1 hX.sc ⟨rfl, rfl⟩ rfl rfl <| X_ald rfl <| X_gi 4 4 4 hX.sc ⟨rfl, rfl, rfl⟩ (Or.inl rfl) <| X_ba hX.by' (by decide) (by first | omega | (simp (disch := omega) only [um_eq, um_na, um_ni, Int.toNat_natCast]; omega)) (by first | omega | (simp (disch := omega) only [um_eq, um_na, um_ni, Int.toNat_natCast]; omega)) rfl <| X_i <| X_nil) (by first | omega | (simp (disch := omega) only [um_eq, um_na, um_ni, Int.toNat_natCast]; omega)) (by first | omega | (simp (disch := omega) only [um_eq, um_na, um_ni, Int.toNat_natCast]; omega)) (fun hc => ?_) (fun hc => absurd hc (by first | omega | decide | (simp (disch := omega) only [um_eq, um_na, um_ni, Int.toNat_natCast]; omega)))
          refine Rn.fal rfl (X_i <| X_nil) ?_
          have fin : Rn S 44 137 ([vI 4, vR 56], [some (vR 56)], T, Q) (none, (T, um (um Q 56 3 4) 56 5 (um Q 56 3 4 56 4 + 1))) := by
            refine Rn.fal rfl (X_pi 4 3 3 hX.sc ⟨rfl, rfl, rfl⟩ (Or.inl rfl) <| X_ald rfl <| X_ald rfl <| X_gi 4 4 4 hX.sc ⟨rfl, rfl, rfl⟩ (Or.inl rfl) <| X_i <| X_add <| X_pi 4 5 5 hX.sc ⟨rfl, rfl, rfl⟩ (Or.inl rfl) <| X_nil) ?_
            refine Rn.rv rfl (X_nil) rfl
          rw [um_ni (by decide)] at fin
          exact fin
        · exact absurd hc (by rw [hQ]; omega)
end Tok
