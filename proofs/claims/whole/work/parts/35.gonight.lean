/-! goNight -/
section Go
variable {S : List Int} {T : List Sh} {M : Nat → Int → Int} {h : Hp}
/-- the model's night's end -/
abbrev mNight (M : Nat → Int → Int) : Int × Int × Int := nightF (V M) 0 (lstC (V M) 0 (M 77 6).toNat) (M 77 6).toNat
theorem c_goNight (hM : isM T) (hm : MoOk M) : Cl S 158 [vR 76] (T, M) (none, (T, setG M (mNight M))) := by
  obtain ⟨m1, m2⟩ := id hm
  have l0 := lstC_in (M := V M) (b := 0) (n := (M 77 6).toNat) (by omega) (fun i hi => m2 i (by omega))
  generalize hl : lstC (V M) 0 (M 77 6).toNat = l at l0
  obtain ⟨n, hn⟩ : ∃ n : Nat, M 77 6 = (n : Int) := ⟨(M 77 6).toNat, by omega⟩
  have htn : (M 77 6).toNat = n := by omega
  have ht : ∀ i, i < n → TrOk (V M) (0 + 16 + 2 * i) ∧ l ≤ V M (0 + 16 + 2 * i) 6 := fun i hi => ⟨m2 i (by omega), by
    rw [← hl]
    exact lstC_le (by omega) (fun j hj => by have := m2 j (by omega); omega)⟩
  have hni := nightF_in (M := V M) (b := 0) (n := n) l0.1 ht
  obtain ⟨f1, f2, f3⟩ := nightF_is (M := V M) (b := 0) l0.1 n ht
  have eN : mNight M = nightF (V M) 0 l n := by
    show nightF (V M) 0 (lstC (V M) 0 (M 77 6).toNat) (M 77 6).toNat = _
    rw [hl, htn]
  rw [eN]
  generalize hp : nightF (V M) 0 l n = p at *
  have g77 : ∀ x, setG M x 77 = M 77 := fun x => setG_ne (by decide)
  have g82 : ∀ x, setG M x 82 = M 82 := fun x => setG_ne (by decide)
  have gV : ∀ x, V (setG M x) = V M := fun x => V_fn (setG_ne (by decide)) (setG_ne (by decide)) (setG_ne (by decide)) (setG_ne (by decide))
  have h6 : ∀ x, setG M x 77 6 = (n : Int) := fun x => by rw [g77, hn]
  -- one's waiting, in any memory that differs in the night's numbers alone
  have cw : ∀ (x : Int × Int × Int) (s : Nat), s < n → Cl S 157 [vR 76, vI (s : Int)] (T, setG M x) (some (vI (waitC (V M) (0 + 16 + 2 * s) l)), (T, setG M x)) := by
    intro x s hs
    have c := c_mwaits (S := S) (M := setG M x) (s := s) hM (by unfold MoOk; rw [gV, g77]; exact hm) (by rw [h6]; omega)
    rw [gV, h6] at c
    have e1 : ((n : Int)).toNat = (M 77 6).toNat := by omega
    rw [e1, hl] at c
    exact c
  have rd : ∀ s, s < n → (0 ≤ M 77 (63 + (s : Int)) ∧ M 77 (63 + (s : Int)) ≤ 120) ∧ (-1 ≤ M 82 (s : Int) ∧ M 82 (s : Int) ≤ 120) ∧ (0 ≤ waitC (V M) (0 + 16 + 2 * s) l ∧ waitC (V M) (0 + 16 + 2 * s) l ≤ 2000000) := by
    intro s hs
    have h1 := ht s hs
    have h2 := waitC_in h1.1 l0.1 h1.2
    have h3 := h1.1
    unfold TrOk at h3
    rw [V_0, V_1, V_2, V_3, V_4, V_5, V_6, V_7] at h3
    exact ⟨h3.2.1, h3.2.2.2.2.2.1, h2⟩
  -- the first loop of a minute: who has waited
  have loop1 : ∀ (t : Nat), t < 300 → ∀ (j : Nat) (w : Int) (x3 : Option AV) (r : Option AV × Hp), j ≤ n → (-1 ≤ w ∧ w ≤ 4) → Fst (fun s => wV (V M) 0 l s ≤ (t : Int)) j n (-1) w → (∀ w', (-1 ≤ w' ∧ w' ≤ 4) → Fst (fun s => wV (V M) 0 l s ≤ (t : Int)) 0 n (-1) w' → Rn S 158 85 ([], [some (vR 76), some (vI (t : Int)), some (vI (-1)), x3], T, setG M (300, w', 0)) r) → Rn S 158 44 ([], [some (vR 76), some (vI (t : Int)), some (vI ((j : Int) - 1)), x3], T, setG M (300, w, 0)) r := by
    intro t ht3 j
    induction j with
    | zero =>
      intro w x3 r hj hw hF K
      refine Rn.ilt rfl (X_ild rfl <| X_nil) (by first | omega | (simp (disch := omega) only [um_eq, um_na, um_ni, Int.toNat_natCast]; omega)) (fun hc => ?_) (fun hc => ?_)
      · exact K w hw hF
      · exact absurd hc (by omega)
    | succ j ih =>
      intro w x3 r hj hw hF K
      obtain ⟨r1, r2, r3⟩ := rd j (by omega)
      have ej : ((j + 1 : Nat) : Int) - 1 = (j : Int) := by omega
      rw [ej]
      refine Rn.ilt rfl (X_ild rfl <| X_nil) (by first | omega | (simp (disch := omega) only [um_eq, um_na, um_ni, Int.toNat_natCast]; omega)) (fun hc => ?_) (fun hc => ?_)
      · exact absurd hc (by omega)
      · clear hc
        have e63 : setG M (300, w, 0) 77 (63 + (j : Int)) = M 77 (63 + (j : Int)) := by rw [g77]
        refine Rn.cal rfl (X_ald rfl <| X_ald rfl <| X_gr 8 0 hM.ob ⟨rfl, rfl⟩ rfl rfl <| X_i <| X_ild rfl <| X_add <| X_ia hM.w (by first | omega | (simp (disch := omega) only [um_eq, um_na, um_ni, Int.toNat_natCast]; omega)) (by first | omega | (simp (disch := omega) only [um_eq, um_na, um_ni, Int.toNat_natCast]; omega)) rfl <| X_ald rfl <| X_ild rfl <| X_nil) (vs := [_, _]) (rest := [_, _]) rfl rfl rfl (rcv_v hM.ob (by decide)) (cw (300, w, 0) j (by omega)) ?_
        show Rn S 158 63 ([vI (waitC (V M) (0 + 16 + 2 * j) l), vI (setG M (300, w, 0) 77 (63 + (j : Int))), vR 76], _, T, setG M (300, w, 0)) r
        rw [e63]
        have ew : wV (V M) 0 l j = M 77 (63 + (j : Int)) + waitC (V M) (0 + 16 + 2 * j) l := by
          show V M (0 + 16 + 2 * j) 1 + _ = _
          rw [V_1]
        refine Rn.cgt rfl (X_add <| X_ild rfl <| X_nil) (by first | omega | (simp (disch := omega) only [um_eq, um_na, um_ni, Int.toNat_natCast]; omega)) (by first | omega | (simp (disch := omega) only [um_eq, um_na, um_ni, Int.toNat_natCast]; omega)) (fun hc => ?_) (fun hc => ?_)
        · refine Rn.fal rfl (X_ald rfl <| X_gi 8 20 20 hM.ob ⟨rfl, rfl, rfl⟩ (Or.inl rfl) <| X_nil) ?_
          rw [setG_20]
          refine Rn.jto rfl (X_pi 8 20 20 hM.ob ⟨rfl, rfl, rfl⟩ (Or.inl rfl) <| X_inc rfl (L' := [_, _, _, _]) rfl <| X_nil) ?_
          rw [setG_w20]
          exact ih w x3 r (by omega) hw (Fst_no hF (by rw [ew]; omega)) K
        · refine Rn.jto rfl (X_ild rfl <| X_nil) ?_
          refine Rn.jto rfl (X_pi 8 20 20 hM.ob ⟨rfl, rfl, rfl⟩ (Or.inl rfl) <| X_inc rfl (L' := [_, _, _, _]) rfl <| X_nil) ?_
          rw [setG_w20]
          exact ih (j : Int) x3 r (by omega) (by omega) (Fst_y hF (by omega) (by rw [ew]; omega)) K
  -- the second one: who is up anyhow
  have loop2 : ∀ (t : Nat), t < 300 → ∀ (j : Nat) (w0 w a : Int) (x3 : Option AV) (r : Option AV × Hp), j ≤ n → (-1 ≤ w ∧ w ≤ 4) → (a = 0 ∨ a = 1) → Fst (uP (V M) 0 (t : Int)) j n w0 w → (a = 1 ↔ ∃ s, j ≤ s ∧ s < n ∧ uP (V M) 0 (t : Int) s) → (∀ w' a' x3', (-1 ≤ w' ∧ w' ≤ 4) → (a' = 0 ∨ a' = 1) → Fst (uP (V M) 0 (t : Int)) 0 n w0 w' → (a' = 1 ↔ ∃ s, 0 ≤ s ∧ s < n ∧ uP (V M) 0 (t : Int) s) → Rn S 158 166 ([], [some (vR 76), some (vI (t : Int)), some (vI (-1)), x3'], T, setG M (300, w', a')) r) → Rn S 158 95 ([], [some (vR 76), some (vI (t : Int)), some (vI ((j : Int) - 1)), x3], T, setG M (300, w, a)) r := by
    intro t ht3 j
    induction j with
    | zero =>
      intro w0 w a x3 r hj hw ha hF hA K
      refine Rn.ilt rfl (X_ild rfl <| X_nil) (by first | omega | (simp (disch := omega) only [um_eq, um_na, um_ni, Int.toNat_natCast]; omega)) (fun hc => ?_) (fun hc => ?_)
      · exact K w a _ hw ha hF hA
      · exact absurd hc (by omega)
    | succ j ih =>
      intro w0 w a x3 r hj hw ha hF hA K
      obtain ⟨r1, r2, r3⟩ := rd j (by omega)
      have ej : ((j + 1 : Nat) : Int) - 1 = (j : Int) := by omega
      rw [ej]
      have e82 : ∀ x, setG M x 82 (j : Int) = M 82 (j : Int) := fun x => by rw [g82]
      have e63 : ∀ x, setG M x 77 (63 + (j : Int)) = M 77 (63 + (j : Int)) := fun x => by rw [g77]
      have eu : uP (V M) 0 (t : Int) j ↔ (M 82 (j : Int) = (t : Int) ∧ M 77 (63 + (j : Int)) ≤ (t : Int)) := by
        show (¬ V M (0 + 16 + 2 * j) 5 = -1 ∧ V M (0 + 16 + 2 * j) 1 ≤ V M (0 + 16 + 2 * j) 5) ∧ V M (0 + 16 + 2 * j) 5 = (t : Int) ↔ _
        rw [V_5, V_1]
        omega
      have no : ¬ uP (V M) 0 (t : Int) j → Rn S 158 126 ([], [some (vR 76), some (vI (t : Int)), some (vI (j : Int)), x3], T, setG M (300, w, a)) r := by
        intro hnu
        refine Rn.fal rfl (X_i <| X_nil) ?_
        refine Rn.ieq rfl (X_ist rfl (L' := [_, _, _, _]) rfl <| X_ald rfl <| X_ild rfl <| X_nil) (by first | omega | (simp (disch := omega) only [um_eq, um_na, um_ni, Int.toNat_natCast]; omega)) (fun hc => ?_) (fun hc => ?_)
        · refine Rn.fal rfl (X_ald rfl <| X_gi 8 20 20 hM.ob ⟨rfl, rfl, rfl⟩ (Or.inl rfl) <| X_nil) ?_
          rw [setG_20]
          refine Rn.ieq rfl (X_pi 8 20 20 hM.ob ⟨rfl, rfl, rfl⟩ (Or.inl rfl) <| X_ald rfl <| X_ild rfl <| X_nil) (by first | omega | (simp (disch := omega) only [um_eq, um_na, um_ni, Int.toNat_natCast]; omega)) (fun hc => ?_) (fun hc => ?_)
          · rw [setG_w20]
            refine Rn.fal rfl (X_ald rfl <| X_gi 8 21 21 hM.ob ⟨rfl, rfl, rfl⟩ (Or.inl rfl) <| X_nil) ?_
            rw [setG_21]
            refine Rn.jto rfl (X_pi 8 21 21 hM.ob ⟨rfl, rfl, rfl⟩ (Or.inl rfl) <| X_inc rfl (L' := [_, _, _, _]) rfl <| X_nil) ?_
            rw [setG_w21]
            refine ih w0 w a _ r (by omega) hw ha (Fst_no hF hnu) ?_ K
            rw [hA]
            constructor
            · rintro ⟨s, s1, s2, s3⟩
              exact ⟨s, by omega, s2, s3⟩
            · rintro ⟨s, s1, s2, s3⟩
              refine ⟨s, ?_, s2, s3⟩
              by_cases e : s = j
              · subst e; exact absurd s3 hnu
              · omega
          · exact absurd rfl hc
        · exact absurd rfl hc
      refine Rn.ilt rfl (X_ild rfl <| X_nil) (by first | omega | (simp (disch := omega) only [um_eq, um_na, um_ni, Int.toNat_natCast]; omega)) (fun hc => ?_) (fun hc => ?_)
      · exact absurd hc (by omega)
      · clear hc
        refine Rn.cne rfl (X_ald rfl <| X_gr 8 14 hM.ob ⟨rfl, rfl⟩ rfl rfl <| X_ild rfl <| X_ia hM.up (by first | omega | (simp (disch := omega) only [um_eq, um_na, um_ni, Int.toNat_natCast]; omega)) (by first | omega | (simp (disch := omega) only [um_eq, um_na, um_ni, Int.toNat_natCast]; omega)) rfl <| X_ild rfl <| X_nil) (by rw [e82]; omega) (by first | omega | (simp (disch := omega) only [um_eq, um_na, um_ni, Int.toNat_natCast]; omega)) (fun hc => ?_) (fun hc => ?_)
        · rw [e82] at hc
          exact no (by rw [eu]; omega)
        · rw [e82] at hc
          have hc0 := hc
          refine Rn.cgt rfl (X_ald rfl <| X_gr 8 0 hM.ob ⟨rfl, rfl⟩ rfl rfl <| X_i <| X_ild rfl <| X_add <| X_ia hM.w (by first | omega | (simp (disch := omega) only [um_eq, um_na, um_ni, Int.toNat_natCast]; omega)) (by first | omega | (simp (disch := omega) only [um_eq, um_na, um_ni, Int.toNat_natCast]; omega)) rfl <| X_ild rfl <| X_nil) (by rw [e63]; omega) (by first | omega | (simp (disch := omega) only [um_eq, um_na, um_ni, Int.toNat_natCast]; omega)) (fun hc => ?_) (fun hc => ?_)
          · rw [e63] at hc
            exact no (by rw [eu]; omega)
          · rw [e63] at hc
            have hup : uP (V M) 0 (t : Int) j := eu.mpr ⟨hc0, hc⟩
            refine Rn.jto rfl (X_i <| X_nil) ?_
            refine Rn.ieq rfl (X_ist rfl (L' := [_, _, _, _]) rfl <| X_ald rfl <| X_ild rfl <| X_nil) (by first | omega | (simp (disch := omega) only [um_eq, um_na, um_ni, Int.toNat_natCast]; omega)) (fun hc => ?_) (fun hc => ?_)
            · exact absurd hc (by omega)
            · refine Rn.jto rfl (X_ild rfl <| X_nil) ?_
              refine Rn.ieq rfl (X_pi 8 20 20 hM.ob ⟨rfl, rfl, rfl⟩ (Or.inl rfl) <| X_ald rfl <| X_ild rfl <| X_nil) (by first | omega | (simp (disch := omega) only [um_eq, um_na, um_ni, Int.toNat_natCast]; omega)) (fun hc => ?_) (fun hc => ?_)
              · exact absurd hc (by omega)
              · rw [setG_w20]
                refine Rn.jto rfl (X_i <| X_nil) ?_
                refine Rn.jto rfl (X_pi 8 21 21 hM.ob ⟨rfl, rfl, rfl⟩ (Or.inl rfl) <| X_inc rfl (L' := [_, _, _, _]) rfl <| X_nil) ?_
                rw [setG_w21]
                refine ih w0 (j : Int) 1 _ r (by omega) (by omega) (Or.inr rfl) (Fst_y hF (by omega) hup) ?_ K
                exact ⟨fun _ => ⟨j, Nat.le_refl _, by omega, hup⟩, fun _ => rfl⟩
  -- the minutes
  have fin : ∀ L x, Rn S 158 191 ([], L, T, setG M x) (none, (T, setG M x)) := fun L x => Rn.rv rfl X_nil rfl
  have mins : ∀ (k t : Nat) (x2 x3 : Option AV), t + k = 300 → (t : Int) ≤ p.1 → Rn S 158 19 ([], [some (vR 76), some (vI (t : Int)), x2, x3], T, setG M (300, -1, 0)) (none, (T, setG M p)) := by
    intro k
    induction k with
    | zero =>
      intro t x2 x3 hk htp
      have hp3 : p = (300, -1, 0) := by
        rcases f3 with h | ⟨h, -⟩
        · exact h
        · omega
      refine Rn.cge rfl (X_ild rfl <| X_i <| X_nil) (by first | omega | (simp (disch := omega) only [um_eq, um_na, um_ni, Int.toNat_natCast]; omega)) (by first | omega | (simp (disch := omega) only [um_eq, um_na, um_ni, Int.toNat_natCast]; omega)) (fun hc => ?_) (fun hc => ?_)
      · rw [hp3]
        exact fin _ _
      · exact absurd hc (by omega)
    | succ k ih =>
      intro t x2 x3 hk htp
      have e20 : setG M (300, -1, 0) 76 20 = -1 := setG_20
      refine Rn.cge rfl (X_ild rfl <| X_i <| X_nil) (by first | omega | (simp (disch := omega) only [um_eq, um_na, um_ni, Int.toNat_natCast]; omega)) (by first | omega | (simp (disch := omega) only [um_eq, um_na, um_ni, Int.toNat_natCast]; omega)) (fun hc => ?_) (fun hc => ?_)
      · exact absurd hc (by omega)
      · clear hc
        refine Rn.cne rfl (X_ald rfl <| X_gi 8 20 20 hM.ob ⟨rfl, rfl, rfl⟩ (Or.inl rfl) <| X_i <| X_nil) (by rw [e20]; omega) (by first | omega | (simp (disch := omega) only [um_eq, um_na, um_ni, Int.toNat_natCast]; omega)) (fun hc => ?_) (fun hc => ?_)
        · rw [e20] at hc
          exact absurd rfl hc
        · clear hc
          refine Rn.fal rfl (X_ald rfl <| X_gr 8 0 hM.ob ⟨rfl, rfl⟩ rfl rfl <| X_i <| X_ia hM.w (by omega) (by omega) rfl <| X_i <| X_sub <| X_ist rfl (L' := [_, _, _, _]) rfl <| X_nil) ?_
          rw [h6]
          refine loop1 t (by omega) n (-1) x3 _ (Nat.le_refl _) (by omega) Fst_n ?_
          intro w1 hw1 hF1
          refine Rn.fal rfl (X_ald rfl <| X_gr 8 0 hM.ob ⟨rfl, rfl⟩ rfl rfl <| X_i <| X_ia hM.w (by omega) (by omega) rfl <| X_i <| X_sub <| X_ist rfl (L' := [_, _, _, _]) rfl <| X_nil) ?_
          rw [h6]
          refine loop2 t (by omega) n w1 w1 0 x3 _ (Nat.le_refl _) hw1 (Or.inl rfl) Fst_n ⟨fun h => (by cases h), fun ⟨s, s1, s2, _⟩ => (by omega)⟩ ?_
          intro w2 a2 x3' hw2 ha2 hF2 hA2
          have e20' : setG M (300, w2, a2) 76 20 = w2 := setG_20
          by_cases hlt : (t : Int) < p.1
          · -- nobody acts yet
            have n1 : ∀ s, s < n → ¬ wV (V M) 0 l s ≤ (t : Int) := fun s hs h => by have := f1 s hs; omega
            have n2 : ∀ s, s < n → ¬ uP (V M) 0 (t : Int) s := fun s hs h => by have := f2 s hs h.1; have := h.2; omega
            have ew1 : w1 = -1 := by
              rcases hF1 with ⟨s, -, s2, s3, -⟩ | ⟨-, h⟩
              · exact absurd s3 (n1 s s2)
              · exact h
            have ew2 : w2 = -1 := by
              rcases hF2 with ⟨s, -, s2, s3, -⟩ | ⟨-, h⟩
              · exact absurd s3 (n2 s s2)
              · rw [h, ew1]
            have ea2 : a2 = 0 := by
              rcases ha2 with h | h
              · exact h
              · obtain ⟨s, -, s2, s3⟩ := hA2.mp h
                exact absurd s3 (n2 s s2)
            subst ew2 ea2
            refine Rn.cne rfl (X_ald rfl <| X_ald rfl <| X_gi 8 20 20 hM.ob ⟨rfl, rfl, rfl⟩ (Or.inl rfl) <| X_i <| X_nil) (by rw [e20']; omega) (by first | omega | (simp (disch := omega) only [um_eq, um_na, um_ni, Int.toNat_natCast]; omega)) (fun hc => ?_) (fun hc => ?_)
            · rw [e20'] at hc
              exact absurd rfl hc
            · refine Rn.jto rfl (X_i <| X_nil) ?_
              refine Rn.jto rfl (X_pi 8 19 19 hM.ob ⟨rfl, rfl, rfl⟩ (Or.inl rfl) <| X_inc rfl (L' := [_, _, _, _]) rfl <| X_nil) ?_
              rw [setG_w19]
              exact ih (t + 1) _ _ (by omega) (by omega)
          · -- this is the minute
            have ht' : p.1 = (t : Int) := by omega
            have hres : w2 = p.2.1 ∧ a2 = p.2.2 ∧ ¬ w2 = -1 := by
              rcases f3 with h | ⟨-, h⟩
              · have : p.1 = 300 := by rw [h]
                omega
              · rcases h with ⟨q1, q2, s, q3, q4⟩ | ⟨q1, q2, q3, s, q4, q5⟩
                · rw [ht'] at q2 q4
                  have ha : a2 = 1 := hA2.mpr ⟨s, by omega, q3, q4⟩
                  rcases hF2 with ⟨s2, z1, z2, z3, z4, z5⟩ | ⟨z1, -⟩
                  · rcases q2 with ⟨s3, y1, y2, y3, y4, y5⟩ | ⟨y1, -⟩
                    · have : s2 = s3 := by
                        rcases Nat.lt_trichotomy s2 s3 with g | g | g
                        · exact absurd z3 (y4 s2 (by omega) g)
                        · exact g
                        · exact absurd y3 (z4 s3 (by omega) g)
                      subst this
                      exact ⟨by rw [z5, y5], by rw [ha, q1], by omega⟩
                    · exact absurd z3 (y1 s2 (by omega) z2)
                  · exact absurd q4 (z1 s (by omega) q3)
                · rw [ht'] at q2 q3 q5
                  have ha : a2 = 0 := by
                    rcases ha2 with g | g
                    · exact g
                    · obtain ⟨s', -, z2, z3⟩ := hA2.mp g
                      exact absurd z3 (q2 s' z2)
                  have ew : w2 = w1 := by
                    rcases hF2 with ⟨s2, z1, z2, z3, -⟩ | ⟨-, z⟩
                    · exact absurd z3 (q2 s2 z2)
                    · exact z
                  have same : ∀ x, x < n → (wV (V M) 0 l x ≤ (t : Int) ↔ wV (V M) 0 l x = (t : Int)) := fun x hx => by
                    have := f1 x hx
                    omega
                  rcases hF1 with ⟨s2, z1, z2, z3, z4, z5⟩ | ⟨z1, -⟩
                  · rcases q3 with ⟨s3, y1, y2, y3, y4, y5⟩ | ⟨y1, -⟩
                    · have : s2 = s3 := by
                        rcases Nat.lt_trichotomy s2 s3 with g | g | g
                        · exact absurd ((same s2 z2).mp z3) (y4 s2 (by omega) g)
                        · exact g
                        · exact absurd ((same s3 y2).mpr y3) (z4 s3 (by omega) g)
                      subst this
                      exact ⟨by rw [ew, z5, y5], by rw [ha, q1], by omega⟩
                    · exact absurd ((same s2 z2).mp z3) (y1 s2 (by omega) z2)
                  · exact absurd ((same s q4).mpr q5) (z1 s (by omega) q4)
            obtain ⟨hr1, hr2, hr3⟩ := hres
            refine Rn.cne rfl (X_ald rfl <| X_ald rfl <| X_gi 8 20 20 hM.ob ⟨rfl, rfl, rfl⟩ (Or.inl rfl) <| X_i <| X_nil) (by rw [e20']; omega) (by first | omega | (simp (disch := omega) only [um_eq, um_na, um_ni, Int.toNat_natCast]; omega)) (fun hc => ?_) (fun hc => ?_)
            · refine Rn.fal rfl (X_ild rfl <| X_nil) ?_
              refine Rn.jto rfl (X_pi 8 19 19 hM.ob ⟨rfl, rfl, rfl⟩ (Or.inl rfl) <| X_inc rfl (L' := [_, _, _, _]) rfl <| X_nil) ?_
              rw [setG_w19]
              have ep : ((t : Int), w2, a2) = p := by rw [hr1, hr2, ← ht']
              have e20'' : setG M ((t : Int), w2, a2) 76 20 = w2 := setG_20
              by_cases h299 : t + 1 = 300
              · refine Rn.cge rfl (X_ild rfl <| X_i <| X_nil) (by first | omega | (simp (disch := omega) only [um_eq, um_na, um_ni, Int.toNat_natCast]; omega)) (by first | omega | (simp (disch := omega) only [um_eq, um_na, um_ni, Int.toNat_natCast]; omega)) (fun hc => ?_) (fun hc => ?_)
                · rw [ep]
                  exact fin _ _
                · exact absurd hc (by omega)
              · refine Rn.cge rfl (X_ild rfl <| X_i <| X_nil) (by first | omega | (simp (disch := omega) only [um_eq, um_na, um_ni, Int.toNat_natCast]; omega)) (by first | omega | (simp (disch := omega) only [um_eq, um_na, um_ni, Int.toNat_natCast]; omega)) (fun hc => ?_) (fun hc => ?_)
                · exact absurd hc (by omega)
                · refine Rn.cne rfl (X_ald rfl <| X_gi 8 20 20 hM.ob ⟨rfl, rfl, rfl⟩ (Or.inl rfl) <| X_i <| X_nil) (by rw [e20'']; omega) (by first | omega | (simp (disch := omega) only [um_eq, um_na, um_ni, Int.toNat_natCast]; omega)) (fun hc => ?_) (fun hc => ?_)
                  · rw [ep]
                    exact fin _ _
                  · rw [e20''] at hc
                    exact absurd hc hr3
            · rw [e20'] at hc
              exact absurd hc hr3
  refine ⟨_, rfl, ?_⟩
  refine Rn.fal rfl (X_ald rfl <| X_i <| X_pi 8 19 19 hM.ob ⟨rfl, rfl, rfl⟩ (Or.inl rfl) <| X_ald rfl <| X_i <| X_pi 8 20 20 hM.ob ⟨rfl, rfl, rfl⟩ (Or.inl rfl) <| X_ald rfl <| X_i <| X_pi 8 21 21 hM.ob ⟨rfl, rfl, rfl⟩ (Or.inl rfl) <| X_i <| X_ist rfl (L' := [_, _, _, _]) rfl <| X_nil) ?_
  exact mins 300 0 _ _ (by omega) (by omega)
end Go
