/-! THE MODEL'S NIGHT, MINUTE BY MINUTE -/
theorem V_fn {M N : Nat → Int → Int} (h77 : N 77 = M 77) (h82 : N 82 = M 82) (h83 : N 83 = M 83) (h84 : N 84 = M 84) : V N = V M := by
  funext a k
  unfold V
  rw [h77, h82, h83, h84]
def setG (M : Nat → Int → Int) (p : Int × Int × Int) : Nat → Int → Int := um (um (um M 76 19 p.1) 76 20 p.2.1) 76 21 p.2.2
theorem setG_ne {M : Nat → Int → Int} {a : Nat} {p : Int × Int × Int} (h : a ≠ 76) : setG M p a = M a := by
  unfold setG
  rw [um_fn h, um_fn h, um_fn h]
theorem setG_k {M : Nat → Int → Int} {p : Int × Int × Int} {k : Int} (h1 : k ≠ 19) (h2 : k ≠ 20) (h3 : k ≠ 21) : setG M p 76 k = M 76 k := by
  unfold setG
  rw [um_ni h3, um_ni h2, um_ni h1]
theorem setG_19 {M : Nat → Int → Int} {p : Int × Int × Int} : setG M p 76 19 = p.1 := by
  unfold setG
  rw [um_ni (by omega), um_ni (by omega), um_eq]
theorem setG_20 {M : Nat → Int → Int} {p : Int × Int × Int} : setG M p 76 20 = p.2.1 := by
  unfold setG
  rw [um_ni (by omega), um_eq]
theorem setG_21 {M : Nat → Int → Int} {p : Int × Int × Int} : setG M p 76 21 = p.2.2 := um_eq
theorem setG_w19 {M : Nat → Int → Int} {m w a m' : Int} : um (setG M (m, w, a)) 76 19 m' = setG M (m', w, a) := by
  funext x k
  by_cases hx : x = 76
  · subst hx
    by_cases h1 : k = 19
    · subst h1; rw [um_eq, setG_19]
    · rw [um_ni h1]
      unfold setG
      by_cases h3 : k = 21
      · subst h3; rw [um_eq, um_eq]
      · rw [um_ni h3, um_ni h3]
        by_cases h2 : k = 20
        · subst h2; rw [um_eq, um_eq]
        · rw [um_ni h2, um_ni h2, um_ni h1, um_ni h1]
  · rw [um_na hx, setG_ne hx, setG_ne hx]
theorem setG_w20 {M : Nat → Int → Int} {m w a w' : Int} : um (setG M (m, w, a)) 76 20 w' = setG M (m, w', a) := by
  funext x k
  by_cases hx : x = 76
  · subst hx
    by_cases h1 : k = 20
    · subst h1; rw [um_eq, setG_20]
    · rw [um_ni h1]
      unfold setG
      by_cases h3 : k = 21
      · subst h3; rw [um_eq, um_eq]
      · rw [um_ni h3, um_ni h3, um_ni h1, um_ni h1]
  · rw [um_na hx, setG_ne hx, setG_ne hx]
theorem setG_w21 {M : Nat → Int → Int} {m w a a' : Int} : um (setG M (m, w, a)) 76 21 a' = setG M (m, w, a') := by
  funext x k
  by_cases hx : x = 76
  · subst hx
    by_cases h1 : k = 21
    · subst h1; rw [um_eq, setG_21]
    · rw [um_ni h1]
      unfold setG
      rw [um_ni h1, um_ni h1]
  · rw [um_na hx, setG_ne hx, setG_ne hx]
/-- the first from j on, below n, of which c holds; i0, if none -/
def Fst (c : Nat → Prop) (j n : Nat) (i0 v : Int) : Prop := (∃ s, j ≤ s ∧ s < n ∧ c s ∧ (∀ x, j ≤ x → x < s → ¬ c x) ∧ v = (s : Int)) ∨ ((∀ x, j ≤ x → x < n → ¬ c x) ∧ v = i0)
theorem Fst_n {c : Nat → Prop} {n : Nat} {i0 : Int} : Fst c n n i0 i0 := Or.inr ⟨fun x h1 h2 => by omega, rfl⟩
theorem Fst_y {c : Nat → Prop} {j n : Nat} {i0 v : Int} (h : Fst c (j + 1) n i0 v) (hj : j < n) (hc : c j) : Fst c j n i0 (j : Int) := Or.inl ⟨j, Nat.le_refl _, hj, hc, fun x h1 h2 => by omega, rfl⟩
theorem Fst_no {c : Nat → Prop} {j n : Nat} {i0 v : Int} (h : Fst c (j + 1) n i0 v) (hc : ¬ c j) : Fst c j n i0 v := by
  rcases h with ⟨s, h1, h2, h3, h4, h5⟩ | ⟨h1, h2⟩
  · refine Or.inl ⟨s, by omega, h2, h3, fun x x1 x2 => ?_, h5⟩
    by_cases e : x = j
    · rw [e]; exact hc
    · exact h4 x (by omega) x2
  · refine Or.inr ⟨fun x x1 x2 => ?_, h2⟩
    by_cases e : x = j
    · rw [e]; exact hc
    · exact h1 x (by omega) x2
section NF
variable {M : Nat → Int → Int} {b : Nat} {l : Int}
abbrev wV (M : Nat → Int → Int) (b : Nat) (l : Int) (s : Nat) : Int := M (b + 16 + 2 * s) 1 + waitC M (b + 16 + 2 * s) l
abbrev uP (M : Nat → Int → Int) (b : Nat) (t : Int) (s : Nat) : Prop := upA M (b + 16 + 2 * s) ∧ M (b + 16 + 2 * s) 5 = t
/-- how the night's end is known -/
theorem nightF_is (l0 : 0 ≤ l) : ∀ n : Nat, (∀ i, i < n → TrOk M (b + 16 + 2 * i) ∧ l ≤ M (b + 16 + 2 * i) 6) → (∀ s, s < n → (nightF M b l n).1 ≤ wV M b l s) ∧ (∀ s, s < n → upA M (b + 16 + 2 * s) → (nightF M b l n).1 ≤ M (b + 16 + 2 * s) 5) ∧ (nightF M b l n = (300, -1, 0) ∨ ((nightF M b l n).1 < 300 ∧ (((nightF M b l n).2.2 = 1 ∧ Fst (uP M b (nightF M b l n).1) 0 n (-1) (nightF M b l n).2.1 ∧ ∃ s, s < n ∧ uP M b (nightF M b l n).1 s) ∨ ((nightF M b l n).2.2 = 0 ∧ (∀ x, x < n → ¬ uP M b (nightF M b l n).1 x) ∧ Fst (fun s => wV M b l s = (nightF M b l n).1) 0 n (-1) (nightF M b l n).2.1 ∧ ∃ s, s < n ∧ wV M b l s = (nightF M b l n).1)))) := by
  intro n
  induction n with
  | zero => intro _; exact ⟨fun s hs => by omega, fun s hs => by omega, Or.inl rfl⟩
  | succ n ih =>
    intro ht
    obtain ⟨i1, i2, i3⟩ := ih (fun i hi => ht i (by omega))
    have hn := nightF_in (M := M) (b := b) (n := n) l0 (fun i hi => ht i (by omega))
    have htn := ht n (by omega)
    have hw := waitC_in htn.1 l0 htn.2
    have e0 : nightF M b l (n + 1) = if M (b + 16 + 2 * n) 1 + waitC M (b + 16 + 2 * n) l < (if upA M (b + 16 + 2 * n) ∧ (M (b + 16 + 2 * n) 5 < (nightF M b l n).1 ∨ (M (b + 16 + 2 * n) 5 = (nightF M b l n).1 ∧ (nightF M b l n).2.2 = 0)) then (M (b + 16 + 2 * n) 5, (n : Int), (1 : Int)) else nightF M b l n).1 then (M (b + 16 + 2 * n) 1 + waitC M (b + 16 + 2 * n) l, (n : Int), (0 : Int)) else (if upA M (b + 16 + 2 * n) ∧ (M (b + 16 + 2 * n) 5 < (nightF M b l n).1 ∨ (M (b + 16 + 2 * n) 5 = (nightF M b l n).1 ∧ (nightF M b l n).2.2 = 0)) then (M (b + 16 + 2 * n) 5, (n : Int), (1 : Int)) else nightF M b l n) := rfl
    rw [e0]
    generalize hp : nightF M b l n = p at *
    have hwn : wV M b l n = M (b + 16 + 2 * n) 1 + waitC M (b + 16 + 2 * n) l := rfl
    by_cases hu : upA M (b + 16 + 2 * n) ∧ (M (b + 16 + 2 * n) 5 < p.1 ∨ (M (b + 16 + 2 * n) 5 = p.1 ∧ p.2.2 = 0))
    · rw [if_pos hu]
      simp only
      have hU : M (b + 16 + 2 * n) 5 ≤ p.1 := by omega
      -- nobody before n is up at that minute
      have nob : ∀ x, x < n → ¬ uP M b (M (b + 16 + 2 * n) 5) x := by
        intro x hx hq
        have h1 := i2 x hx hq.1
        have h2 := hq.2
        rcases hu.2 with h3 | h3
        · omega
        · rcases i3 with h4 | ⟨h4, ⟨h5, -⟩ | ⟨-, h5, -⟩⟩
          · rw [h4] at h3
            have : M (b + 16 + 2 * n) 5 = 300 := h3.1
            omega
          · omega
          · exact h5 x hx ⟨hq.1, by omega⟩
      by_cases hw2 : M (b + 16 + 2 * n) 1 + waitC M (b + 16 + 2 * n) l < M (b + 16 + 2 * n) 5
      · rw [if_pos hw2]
        simp only
        refine ⟨fun s hs => ?_, fun s hs hup => ?_, Or.inr ⟨by omega, Or.inr ⟨trivial, fun x hx hq => ?_, Or.inl ⟨n, by omega, by omega, rfl, fun x _ hx => ?_, rfl⟩, n, by omega, rfl⟩⟩⟩
        · by_cases e : s = n
          · subst e; exact Int.le_refl _
          · have := i1 s (by omega); omega
        · by_cases e : s = n
          · subst e; omega
          · have := i2 s (by omega) hup; omega
        · by_cases e : x = n
          · subst e
            have := hq.2
            omega
          · have := i2 x (by omega) hq.1
            have := hq.2
            omega
        · have := i1 x hx
          omega
      · rw [if_neg hw2]
        simp only
        refine ⟨fun s hs => ?_, fun s hs hup => ?_, Or.inr ⟨by omega, Or.inl ⟨trivial, Or.inl ⟨n, by omega, by omega, ⟨hu.1, rfl⟩, fun x _ hx => nob x hx, rfl⟩, n, by omega, hu.1, rfl⟩⟩⟩
        · by_cases e : s = n
          · subst e; rw [hwn]; omega
          · have := i1 s (by omega); omega
        · by_cases e : s = n
          · subst e; exact Int.le_refl _
          · have := i2 s (by omega) hup; omega
    · rw [if_neg hu]
      have hnu : upA M (b + 16 + 2 * n) → p.1 ≤ M (b + 16 + 2 * n) 5 ∧ (M (b + 16 + 2 * n) 5 = p.1 → p.2.2 ≠ 0) := by
        intro h1
        refine ⟨?_, fun h2 h3 => hu ⟨h1, Or.inr ⟨h2, h3⟩⟩⟩
        have : ¬ M (b + 16 + 2 * n) 5 < p.1 := fun h2 => hu ⟨h1, Or.inl h2⟩
        omega
      by_cases hw2 : M (b + 16 + 2 * n) 1 + waitC M (b + 16 + 2 * n) l < p.1
      · rw [if_pos hw2]
        simp only
        refine ⟨fun s hs => ?_, fun s hs hup => ?_, Or.inr ⟨by omega, Or.inr ⟨trivial, fun x hx hq => ?_, Or.inl ⟨n, by omega, by omega, rfl, fun x _ hx => ?_, rfl⟩, n, by omega, rfl⟩⟩⟩
        · by_cases e : s = n
          · subst e; exact Int.le_refl _
          · have := i1 s (by omega); omega
        · by_cases e : s = n
          · subst e
            have := (hnu hup).1
            omega
          · have := i2 s (by omega) hup; omega
        · by_cases e : x = n
          · subst e
            have := (hnu hq.1).1
            have := hq.2
            omega
          · have := i2 x (by omega) hq.1
            have := hq.2
            omega
        · have := i1 x hx
          omega
      · rw [if_neg hw2]
        refine ⟨fun s hs => ?_, fun s hs hup => ?_, ?_⟩
        · by_cases e : s = n
          · subst e; rw [hwn]; omega
          · exact i1 s (by omega)
        · by_cases e : s = n
          · subst e
            exact (hnu hup).1
          · exact i2 s (by omega) hup
        · rcases i3 with h4 | ⟨h4, h5⟩
          · exact Or.inl h4
          · refine Or.inr ⟨h4, ?_⟩
            rcases h5 with ⟨h5, h6, s, h7, h8⟩ | ⟨h5, h6, h7, s, h8, h9⟩
            · refine Or.inl ⟨h5, ?_, s, by omega, h8⟩
              rcases h6 with ⟨s', g1, g2, g3, g4, g5⟩ | ⟨g1, -⟩
              · exact Or.inl ⟨s', g1, by omega, g3, g4, g5⟩
              · exact absurd h8 (g1 s (by omega) h7)
            · refine Or.inr ⟨h5, fun x hx hq => ?_, ?_, s, by omega, h9⟩
              · by_cases e : x = n
                · subst e
                  exact (hnu hq.1).2 hq.2 h5
                · exact h6 x (by omega) hq
              · rcases h7 with ⟨s', g1, g2, g3, g4, g5⟩ | ⟨g1, -⟩
                · exact Or.inl ⟨s', g1, by omega, g3, g4, g5⟩
                · exact absurd h9 (g1 s (by omega) h8)
end NF
