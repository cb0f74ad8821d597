/-! WAYS, PURELY: least sums over walks -/
abbrev Big : Int := 1000000000
section Dist
variable {n : Nat} {A : Nat → Nat → Prop} {q : Nat → Int} {e : Nat}
/-- a walk of k steps from a to e, and what it costs -/
def Wk (n : Nat) (A : Nat → Nat → Prop) (q : Nat → Int) (e : Nat) : Nat → Nat → Int → Prop
  | 0, a, c => a = e ∧ c = 0
  | k + 1, a, c => ∃ d, d < n ∧ A a d ∧ Wk n A q e k d (c - q d)
theorem Wk_ge (hq : ∀ d, d < n → 2 ≤ q d) : ∀ (k a : Nat) (c : Int), Wk n A q e k a c → 2 * (k : Int) ≤ c
  | 0, a, c, h => by
    obtain ⟨-, rfl⟩ := h
    omega
  | k + 1, a, c, h => by
    obtain ⟨d, hd, -, h2⟩ := h
    have := Wk_ge hq k d _ h2
    have := hq d hd
    omega
/-- numbers that are costs of walks, or none is known -/
def Rl (n : Nat) (A : Nat → Nat → Prop) (q : Nat → Int) (e : Nat) (D : Nat → Int) : Prop := D e = 0 ∧ ∀ a, a < n → D a ≤ Big ∧ (D a = Big ∨ ∃ k, Wk n A q e k a (D a))
def Fx (n : Nat) (A : Nat → Nat → Prop) (q : Nat → Int) (D : Nat → Int) : Prop := ∀ a d, a < n → d < n → A a d → D a ≤ q d + D d
theorem Rl_ge (hq : ∀ d, d < n → 2 ≤ q d) {D : Nat → Int} (h : Rl n A q e D) {a : Nat} (ha : a < n) : 0 ≤ D a := by
  rcases (h.2 a ha).2 with h1 | ⟨k, h1⟩
  · rw [h1]; decide
  · have := Wk_ge hq k a _ h1
    omega
theorem Fx_le {D : Nat → Int} (h0 : D e = 0) (hf : Fx n A q D) : ∀ (k a : Nat) (c : Int), a < n → Wk n A q e k a c → D a ≤ c
  | 0, a, c, _, h => by
    obtain ⟨rfl, rfl⟩ := h
    omega
  | k + 1, a, c, ha, h => by
    obtain ⟨d, hd, hA, h2⟩ := h
    have h3 := Fx_le h0 hf k d _ hd h2
    have h4 := hf a d ha hd hA
    omega
/-- what cannot be made less is least of all that walks cost -/
theorem Fx_least {D E : Nat → Int} (hD : Rl n A q e D) (hf : Fx n A q D) (hE : Rl n A q e E) {a : Nat} (ha : a < n) : D a ≤ E a := by
  rcases (hE.2 a ha).2 with h1 | ⟨k, h1⟩
  · rw [h1]; exact (hD.2 a ha).1
  · exact Fx_le hD.1 hf k a _ ha h1
theorem Fx_uniq {D E : Nat → Int} (hD : Rl n A q e D) (hf : Fx n A q D) (hE : Rl n A q e E) (hg : Fx n A q E) {a : Nat} (ha : a < n) : D a = E a := by
  have := Fx_least hD hf hE ha
  have := Fx_least hE hg hD ha
  omega
def upD (D : Nat → Int) (a : Nat) (v : Int) : Nat → Int := fun x => if x = a then v else D x
theorem Rl_up (hq : ∀ d, d < n → 2 ≤ q d) {D : Nat → Int} (h : Rl n A q e D) {a d : Nat} (ha : a < n) (hd : d < n) (hA : A a d) (hl : q d + D d < D a) : Rl n A q e (upD D a (q d + D d)) := by
  have h1 := (h.2 a ha).1
  have h2 := Rl_ge hq h hd
  have h3 := hq d hd
  refine ⟨?_, fun x hx => ?_⟩
  · unfold upD
    rw [if_neg (fun z => ?_)]
    · exact h.1
    · rw [← z, h.1] at hl
      omega
  · unfold upD
    by_cases hxa : x = a
    · rw [if_pos hxa]
      refine ⟨by omega, Or.inr ?_⟩
      rcases (h.2 d hd).2 with h4 | ⟨k, h4⟩
      · omega
      · refine ⟨k + 1, d, hd, by rw [hxa]; exact hA, ?_⟩
        have : q d + D d - q d = D d := by omega
        rw [this]
        exact h4
    · rw [if_neg hxa]
      exact h.2 x hx
def sumD (D : Nat → Int) : Nat → Int
  | 0 => 0
  | m + 1 => sumD D m + D m
theorem sumD_ge {D : Nat → Int} : ∀ m : Nat, (∀ a, a < m → 0 ≤ D a) → 0 ≤ sumD D m
  | 0, _ => by unfold sumD; omega
  | m + 1, h => by
    have := sumD_ge m (fun a ha => h a (by omega))
    have := h m (by omega)
    unfold sumD
    omega
theorem sumD_up {D : Nat → Int} {a : Nat} {v : Int} : ∀ m : Nat, sumD (upD D a v) m = sumD D m + (if a < m then v - D a else 0)
  | 0 => by unfold sumD; simp
  | m + 1 => by
    unfold sumD
    rw [sumD_up m]
    unfold upD
    by_cases h1 : m = a
    · subst h1
      rw [if_pos rfl, if_neg (by omega), if_pos (by omega)]
      omega
    · rw [if_neg h1]
      by_cases h2 : a < m
      · rw [if_pos h2, if_pos (by omega)]; omega
      · rw [if_neg h2, if_neg (by omega)]; omega
theorem Fx_ex0 (hq : ∀ d, d < n → 2 ≤ q d) : ∀ (N : Nat) (D : Nat → Int), Rl n A q e D → sumD D n ≤ (N : Int) → ∃ E, Rl n A q e E ∧ Fx n A q E
  | N, D, h, hs => by
    by_cases hf : Fx n A q D
    · exact ⟨D, h, hf⟩
    · have : ∃ a d, a < n ∧ d < n ∧ A a d ∧ q d + D d < D a := by
        apply Classical.byContradiction
        intro hn
        exact hf (fun a d ha hd hA => Int.not_lt.mp (fun hl => hn ⟨a, d, ha, hd, hA, hl⟩))
      obtain ⟨a, d, ha, hd, hA, hl⟩ := this
      have h2 := Rl_up hq h ha hd hA hl
      have h3 : sumD (upD D a (q d + D d)) n = sumD D n + (q d + D d - D a) := by rw [sumD_up, if_pos ha]
      have h4 := sumD_ge (D := upD D a (q d + D d)) n (fun x hx => Rl_ge hq h2 hx)
      match N, hs with
      | 0, hs => exact absurd h4 (by omega)
      | N + 1, hs => exact Fx_ex0 hq N _ h2 (by omega)
def ini0 (e : Nat) : Nat → Int := fun x => if x = e then 0 else Big
theorem Rl_ini : Rl n A q e (ini0 e) := by
  refine ⟨if_pos rfl, fun a ha => ?_⟩
  unfold ini0
  by_cases h : a = e
  · rw [if_pos h]
    exact ⟨by decide, Or.inr ⟨0, h, rfl⟩⟩
  · rw [if_neg h]
    exact ⟨Int.le_refl _, Or.inl rfl⟩
theorem Fx_ex (hq : ∀ d, d < n → 2 ≤ q d) : ∃ E, Rl n A q e E ∧ Fx n A q E := by
  have h := sumD_ge (D := ini0 e) n (fun a ha => Rl_ge hq (A := A) (q := q) (Rl_ini (e := e)) ha)
  exact Fx_ex0 hq (sumD (ini0 e) n).toNat (ini0 e) Rl_ini (by omega)
-- how many are not settled yet
def cnt (p : Nat → Bool) : Nat → Nat
  | 0 => 0
  | m + 1 => cnt p m + (if p m then 1 else 0)
theorem cnt_le {p p' : Nat → Bool} : ∀ m : Nat, (∀ a, a < m → p' a = true → p a = true) → cnt p' m ≤ cnt p m
  | 0, _ => Nat.le_refl _
  | m + 1, h => by
    have h1 := cnt_le m (fun a ha => h a (by omega))
    have h2 := h m (by omega)
    unfold cnt
    cases h3 : p' m with
    | false => simp only [Bool.false_eq_true, if_false]; omega
    | true => rw [h2 h3]; omega
theorem cnt_lt {p p' : Nat → Bool} {c : Nat} : ∀ m : Nat, (∀ a, a < m → p' a = true → p a = true) → c < m → p c = true → p' c = false → cnt p' m < cnt p m
  | 0, _, hc, _, _ => by omega
  | m + 1, h, hc, h1, h2 => by
    unfold cnt
    by_cases e : c = m
    · subst e
      have := cnt_le c (fun a ha => h a (by omega))
      rw [h1, h2]
      simp only [if_true, Bool.false_eq_true, if_false]
      omega
    · have h4 := cnt_lt m (fun a ha => h a (by omega)) (by omega) h1 h2
      have h5 := h m (by omega)
      cases h6 : p' m with
      | false => simp only [Bool.false_eq_true, if_false]; omega
      | true => rw [h5 h6]; omega
theorem cnt_all {p : Nat → Bool} : ∀ m : Nat, cnt p m ≤ m
  | 0 => Nat.le_refl _
  | m + 1 => by
    have := cnt_all (p := p) m
    unfold cnt
    split <;> omega
theorem cnt_one {p : Nat → Bool} {c : Nat} : ∀ m : Nat, c < m → p c = false → cnt p m < m
  | 0, h, _ => by omega
  | m + 1, h, h1 => by
    unfold cnt
    by_cases e : c = m
    · subst e
      have := cnt_all (p := p) c
      rw [h1]
      simp only [Bool.false_eq_true, if_false]
      omega
    · have := cnt_one m (by omega) h1
      split <;> omega
theorem cnt_zero {p : Nat → Bool} : ∀ m : Nat, cnt p m = 0 → ∀ a, a < m → p a = false
  | 0, _, a, ha => by omega
  | m + 1, h, a, ha => by
    unfold cnt at h
    by_cases e : a = m
    · subst e
      cases h3 : p a with
      | false => rfl
      | true => rw [h3] at h; simp at h
    · exact cnt_zero m (by omega) a (by omega)
theorem least_of {p : Nat → Bool} {f : Nat → Int} : ∀ m : Nat, (∃ c, c < m ∧ p c = true) → ∃ c, c < m ∧ p c = true ∧ ∀ a, a < m → p a = true → f c ≤ f a
  | 0, ⟨c, hc, _⟩ => by omega
  | m + 1, ⟨c, hc, hp⟩ => by
    by_cases h1 : ∃ c, c < m ∧ p c = true
    · obtain ⟨d, d1, d2, d3⟩ := least_of (p := p) (f := f) m h1
      by_cases h2 : p m = true ∧ f m < f d
      · refine ⟨m, by omega, h2.1, fun a ha pa => ?_⟩
        by_cases e : a = m
        · rw [e]; omega
        · have := d3 a (by omega) pa
          omega
      · refine ⟨d, by omega, d2, fun a ha pa => ?_⟩
        by_cases e : a = m
        · subst e
          have : ¬ f a < f d := fun z => h2 ⟨pa, z⟩
          omega
        · exact d3 a (by omega) pa
    · have e : c = m := by
        apply Classical.byContradiction
        intro z
        exact h1 ⟨c, by omega, hp⟩
      subst e
      refine ⟨c, by omega, hp, fun a ha pa => ?_⟩
      by_cases e : a = c
      · rw [e]; omega
      · exact absurd ⟨a, by omega, pa⟩ h1
abbrev uns (D E : Nat → Int) : Nat → Bool := fun a => decide (D a ≠ E a)
/-- a round over all cells settles one more, if there is one -/
theorem round_less (hq : ∀ d, d < n → 2 ≤ q d) {D D' E : Nat → Int} (hE : Rl n A q e E) (hf : Fx n A q E) (hD : Rl n A q e D) (hD' : Rl n A q e D') (hle : ∀ a, a < n → D' a ≤ D a) (hs : ∀ c d, c < n → d < n → A c d → D' c ≤ q d + D d) : cnt (uns D' E) n < cnt (uns D E) n ∨ cnt (uns D E) n = 0 := by
  by_cases h0 : ∃ c, c < n ∧ uns D E c = true
  · left
    obtain ⟨c, c1, c2, c3⟩ := least_of (p := uns D E) (f := E) n h0
    have c2' : D c ≠ E c := of_decide_eq_true c2
    have g1 := Fx_least hE hf hD c1
    have g2 := Fx_least hE hf hD' c1
    have mono : ∀ a, a < n → uns D' E a = true → uns D E a = true := by
      intro a ha h1
      have h1 : D' a ≠ E a := of_decide_eq_true h1
      have h2 := hle a ha
      have h3 := Fx_least hE hf hD' ha
      exact decide_eq_true (by omega)
    refine cnt_lt n mono c1 c2 (decide_eq_false (fun hn => hn ?_))
    -- c is settled in the round: its first step on a least walk goes to a settled one
    have gB := (hD.2 c c1).1
    rcases (hE.2 c c1).2 with h4 | ⟨k, h4⟩
    · omega
    · match k, h4 with
      | 0, h4 =>
        obtain ⟨rfl, h5⟩ := h4
        have := hD.1
        omega
      | k + 1, h4 =>
        obtain ⟨d, hd, hA, h5⟩ := h4
        have h6 := Fx_le hE.1 hf k d _ hd h5
        have h7 := hq d hd
        have h8 : D d = E d := by
          apply Classical.byContradiction
          intro z
          have := c3 d hd (decide_eq_true z)
          omega
        have h9 := hs c d c1 hd hA
        omega
  · right
    have : ∀ m, m ≤ n → cnt (uns D E) m = 0 := by
      intro m
      induction m with
      | zero => intro _; rfl
      | succ m ih =>
        intro hm
        unfold cnt
        rw [ih (by omega)]
        cases h1 : uns D E m with
        | false => rfl
        | true => exact absurd ⟨m, by omega, h1⟩ h0
    exact this n (Nat.le_refl _)
-- from the other end: numbers by which one comes from s
/-- a walk from s to a -/
def Rf (n : Nat) (A : Nat → Nat → Prop) (q : Nat → Int) (s : Nat) (F : Nat → Int) : Prop := F s = 0 ∧ ∀ a, a < n → F a ≤ Big ∧ (F a = Big ∨ ∃ k, Wk n A q a k s (F a))
def Ff (n : Nat) (A : Nat → Nat → Prop) (q : Nat → Int) (F : Nat → Int) : Prop := ∀ a d, a < n → d < n → F a < Big → A a d → F d ≤ F a + q d
theorem Wk_app {s a d : Nat} {c : Int} (hd : d < n) (hA : A a d) : ∀ (k x : Nat) (c : Int), Wk n A q a k x c → Wk n A q d (k + 1) x (c + q d)
  | 0, x, c, h => by
    obtain ⟨rfl, rfl⟩ := h
    exact ⟨d, hd, hA, rfl, by omega⟩
  | k + 1, x, c, h => by
    obtain ⟨y, hy, hxy, h2⟩ := h
    refine ⟨y, hy, hxy, ?_⟩
    have := Wk_app (s := s) (c := c) hd hA k y _ h2
    have e : c + q d - q y = c - q y + q d := by omega
    rw [e]
    exact this
theorem Ff_le (hq : ∀ d, d < n → 2 ≤ q d) {F : Nat → Int} (hF : Ff n A q F) : ∀ (k a : Nat) (c : Int), a < n → F a + c < Big → Wk n A q e k a c → F e ≤ F a + c
  | 0, a, c, _, _, h => by
    obtain ⟨rfl, rfl⟩ := h
    omega
  | k + 1, a, c, ha, hb, h => by
    obtain ⟨d, hd, hA, h2⟩ := h
    have h3 := Wk_ge hq k d _ h2
    have h4 := hq d hd
    have h5 := hF a d ha hd (by omega) hA
    have h6 := Ff_le hq hF k d _ hd (by omega) h2
    omega
/-- the two ways to reckon come to the same -/
theorem two_ways (hq : ∀ d, d < n → 2 ≤ q d) {s : Nat} {D F : Nat → Int} (hs : s < n) (he : e < n) (hD : Rl n A q e D) (hf : Fx n A q D) (hR : Rf n A q s F) (hF : Ff n A q F) : D s = F e := by
  have h1 : F e ≤ D s := by
    rcases (hD.2 s hs).2 with h1 | ⟨k, h1⟩
    · rw [h1]; exact (hR.2 e he).1
    · by_cases hb : D s < Big
      · have := Ff_le hq hF k s _ hs (by rw [hR.1]; omega) h1
        rw [hR.1] at this
        omega
      · have := (hR.2 e he).1
        have := (hD.2 s hs).1
        omega
  have h2 : D s ≤ F e := by
    rcases (hR.2 e he).2 with h2 | ⟨k, h2⟩
    · rw [h2]; exact (hD.2 s hs).1
    · exact Fx_le hD.1 hf k s _ hs h2
  omega
end Dist
