/-! TURNS: the model -/
section TurnsC
variable {S : List Int} {T : List Sh} {M N D : Nat → Int → Int} {b z n K : Nat} {B v : Int} {h : Hp}
theorem t_power {z n : Nat} (hn : n ≤ 100) : Cl S 175 [vI (z : Int), vI (n : Int)] h (some (vI ((z ^ n : Nat) : Int)), h) := by
  have loop : ∀ (k i : Nat), i + k = n → Rn S 175 4 ([], [some (vI (z : Int)), some (vI (n : Int)), some (vI ((z ^ i : Nat) : Int)), some (vI (i : Int))], h) (some (vI ((z ^ n : Nat) : Int)), h) := by
    intro k
    induction k with
    | zero =>
      intro i hi
      have ei : i = n := by omega
      subst ei
      refine Rn.cge rfl (X_ild rfl <| X_ild rfl <| X_nil) (by first | omega | (simp (disch := omega) only [um_eq, um_na, um_ni, Int.toNat_natCast]; omega)) (by first | omega | (simp (disch := omega) only [um_eq, um_na, um_ni, Int.toNat_natCast]; omega)) (fun hc => ?_) (fun hc => absurd hc (by first | omega | decide | (simp (disch := omega) only [um_eq, um_na, um_ni, Int.toNat_natCast]; omega)))
      refine Rn.ri rfl (X_ild rfl <| X_nil) rfl
    | succ k ih =>
      intro i hi
      have nx := ih (i + 1) (by omega)
      rw [Nat.pow_succ, Int.natCast_mul] at nx
      refine Rn.cge rfl (X_ild rfl <| X_ild rfl <| X_nil) (by first | omega | (simp (disch := omega) only [um_eq, um_na, um_ni, Int.toNat_natCast]; omega)) (by first | omega | (simp (disch := omega) only [um_eq, um_na, um_ni, Int.toNat_natCast]; omega)) (fun hc => absurd hc (by first | omega | decide | (simp (disch := omega) only [um_eq, um_na, um_ni, Int.toNat_natCast]; omega))) (fun hc => ?_)
      refine Rn.jto rfl (X_ild rfl <| X_ild rfl <| X_mul <| X_ist rfl (L' := [_, _, _, _]) rfl <| X_inc rfl (L' := [_, _, _, _]) rfl <| X_nil) ?_
      exact nx
  refine ⟨_, rfl, ?_⟩
  refine Rn.fal rfl (X_i <| X_ist rfl (L' := [_, _, _, _]) rfl <| X_i <| X_ist rfl (L' := [_, _, _, _]) rfl <| X_nil) ?_
  exact loop n 0 (by omega)
theorem t_more {x y : Int} (ix : I32 x) (iy : I32 y) : Cl S 118 [vI x, vI y] h (some (vI (if y < x then x else y)), h) := by
  refine ⟨_, rfl, ?_⟩
  by_cases c : y < x
  · rw [if_pos c]
    refine Rn.cle rfl (X_ild rfl <| X_ild rfl <| X_nil) (by first | omega | (simp (disch := omega) only [um_eq, um_na, um_ni, Int.toNat_natCast]; omega)) (by first | omega | (simp (disch := omega) only [um_eq, um_na, um_ni, Int.toNat_natCast]; omega)) (fun hc => absurd hc (by first | omega | decide | (simp (disch := omega) only [um_eq, um_na, um_ni, Int.toNat_natCast]; omega))) (fun hc => ?_)
    refine Rn.jto rfl (X_ild rfl <| X_nil) ?_
    refine Rn.ri rfl (X_nil) rfl
  · rw [if_neg c]
    refine Rn.cle rfl (X_ild rfl <| X_ild rfl <| X_nil) (by first | omega | (simp (disch := omega) only [um_eq, um_na, um_ni, Int.toNat_natCast]; omega)) (by first | omega | (simp (disch := omega) only [um_eq, um_na, um_ni, Int.toNat_natCast]; omega)) (fun hc => ?_) (fun hc => absurd hc (by first | omega | decide | (simp (disch := omega) only [um_eq, um_na, um_ni, Int.toNat_natCast]; omega)))
    refine Rn.fal rfl (X_ild rfl <| X_nil) ?_
    refine Rn.ri rfl (X_nil) rfl
/-- the model beside the class: what one turn costs -/
def MtOk (D N : Nat → Int → Int) (b z n : Nat) : Prop := TuOk D b z n ∧ N 77 6 = (z : Int) ∧ (∀ s, s < z → ∀ k, 0 ≤ k → k < 5 → N 77 (59 + 4 * k + (s : Int)) = D (b + 16 + 2 * s) k) ∧ 2 * N 76 17 = D (b + 1) 8 ∧ N 76 18 = D (b + 1) 5
theorem mc_val {s : Nat} (hm : MtOk D N b z n) (hs : s < z) (h19 : N 76 19 = 60) (h21 : N 76 21 = 0) : mCost N s = lT D b s + (if N 76 20 = (s : Int) then eT D b s else 0) := by
  obtain ⟨h, h6, ht, h17, h18⟩ := hm
  have e1 := ht s hs 1 (by decide) (by decide)
  have e2 := ht s hs 2 (by decide) (by decide)
  have e3 := ht s hs 3 (by decide) (by decide)
  have l : lightC (V N) (0 + 16 + 2 * s) 60 = lT D b s := by
    unfold lT lightC
    rw [V_1, V_2]
    have e1' : N 77 (63 + (s : Int)) = D (b + 16 + 2 * s) 1 := by rw [← e1]; congr 1 <;> omega
    have e2' : N 77 (67 + (s : Int)) = D (b + 16 + 2 * s) 2 := by rw [← e2]; congr 1 <;> omega
    rw [e1', e2']
  have e3' : N 77 (71 + (s : Int)) = D (b + 16 + 2 * s) 3 := by rw [← e3]; congr 1 <;> omega
  unfold mCost eT
  rw [h19, h21, h17, h18, e3', l]
  by_cases c1 : N 76 20 = (s : Int)
  · by_cases c2 : D (b + 1) 5 = 0
    · rw [if_pos ⟨c1, c2⟩, if_pos c1, if_pos c2, if_pos rfl]
    · rw [if_neg (fun q => c2 q.2), if_pos c1, if_neg c2, Int.add_zero]
  · rw [if_neg (fun q => c1 q.1), if_neg c1, Int.add_zero]
theorem t_mostBy {c : Nat} (hM : isM T) (hm : MtOk D N b z n) (hc : c < 5000) : ∃ N', Cl S 176 [vR 76, vI (c : Int), vI (n : Int)] (T, N) (some (vI (moT z n (lT D b) (eT D b) c)), (T, N')) ∧ (∀ k, ¬ (19 ≤ k ∧ k ≤ 21) → N' 76 k = N 76 k) ∧ (∀ a, a ≠ 76 → a ≠ 84 → N' a = N a) := by
  obtain ⟨h, h6, ht, h17, h18⟩ := id hm
  have z4 := h.2.1
  have n6 := h.2.2.1
  -- a model's memory within the call
  have frame : ∀ P : Nat → Int → Int, (∀ k, ¬ (19 ≤ k ∧ k ≤ 21) → P 76 k = N 76 k) → P 77 = N 77 → MtOk D P b z n := fun P p1 p2 => ⟨h, by rw [p2]; exact h6, fun s hs k k0 k5 => by rw [p2]; exact ht s hs k k0 k5, by rw [p1 17 (by decide)]; exact h17, by rw [p1 18 (by decide)]; exact h18⟩
  -- at first nobody has paid
  have zero : ∀ (k s : Nat) (P : Nat → Int → Int), s + k = z → P 76 19 = 60 → P 76 21 = 0 → (∀ k, ¬ (19 ≤ k ∧ k ≤ 21) → P 76 k = N 76 k) → (∀ a, a ≠ 76 → a ≠ 84 → P a = N a) → (∀ t : Nat, t < s → P 84 (t : Int) = 0) → ∃ P', (∀ r, Rn S 176 37 ([], [some (vR 76), some (vI (c : Int)), some (vI (n : Int)), some (vI (z : Int)), none, none], T, P') r → Rn S 176 13 ([], [some (vR 76), some (vI (c : Int)), some (vI (n : Int)), some (vI (s : Int)), none, none], T, P) r) ∧ P' 76 19 = 60 ∧ P' 76 21 = 0 ∧ (∀ k, ¬ (19 ≤ k ∧ k ≤ 21) → P' 76 k = N 76 k) ∧ (∀ a, a ≠ 76 → a ≠ 84 → P' a = N a) ∧ (∀ t : Nat, t < z → P' 84 (t : Int) = 0) := by
    intro k
    induction k with
    | zero =>
      intro s P hs p1 p2 p3 p4 p5
      have es : s = z := by omega
      subst es
      have p77 := p4 77 (by decide) (by decide)
      have e6 : P 77 6 = (s : Int) := by rw [p77]; exact h6
      refine ⟨P, fun r hr => ?_, p1, p2, p3, p4, p5⟩
      refine Rn.cge rfl (X_ild rfl <| X_ald rfl <| X_gr 8 0 hM.ob ⟨rfl, rfl⟩ rfl rfl <| X_i <| X_ia hM.w (by first | omega | (simp (disch := omega) only [um_eq, um_na, um_ni, Int.toNat_natCast]; omega)) (by first | omega | (simp (disch := omega) only [um_eq, um_na, um_ni, Int.toNat_natCast]; omega)) rfl <| X_nil) (by first | omega | (simp (disch := omega) only [um_eq, um_na, um_ni, Int.toNat_natCast]; omega)) (by first | omega | (simp (disch := omega) only [um_eq, um_na, um_ni, Int.toNat_natCast]; omega)) (fun hc => ?_) (fun hc => absurd hc (by first | omega | decide | (simp (disch := omega) only [um_eq, um_na, um_ni, Int.toNat_natCast]; omega)))
      exact hr
    | succ k ih =>
      intro s P hs p1 p2 p3 p4 p5
      have p77 := p4 77 (by decide) (by decide)
      have e6 : P 77 6 = (z : Int) := by rw [p77]; exact h6
      obtain ⟨P', r1, r2⟩ := ih (s + 1) (um P 84 (s : Int) 0) (by omega) (by rw [um_na (by decide)]; exact p1) (by rw [um_na (by decide)]; exact p2) (fun k hk => by rw [um_na (by decide)]; exact p3 k hk) (fun a a1 a2 => by rw [um_fn a2]; exact p4 a a1 a2) (fun t ht => by
        by_cases et : t = s
        · subst et; exact um_eq
        · rw [um_ni (by omega)]; exact p5 t (by omega))
      refine ⟨P', fun r hr => ?_, r2⟩
      refine Rn.cge rfl (X_ild rfl <| X_ald rfl <| X_gr 8 0 hM.ob ⟨rfl, rfl⟩ rfl rfl <| X_i <| X_ia hM.w (by first | omega | (simp (disch := omega) only [um_eq, um_na, um_ni, Int.toNat_natCast]; omega)) (by first | omega | (simp (disch := omega) only [um_eq, um_na, um_ni, Int.toNat_natCast]; omega)) rfl <| X_nil) (by first | omega | (simp (disch := omega) only [um_eq, um_na, um_ni, Int.toNat_natCast]; omega)) (by first | omega | (simp (disch := omega) only [um_eq, um_na, um_ni, Int.toNat_natCast]; omega)) (fun hc => absurd hc (by first | omega | decide | (simp (disch := omega) only [um_eq, um_na, um_ni, Int.toNat_natCast]; omega))) (fun hc => ?_)
      refine Rn.jto rfl (X_ald rfl <| X_gr 8 16 hM.ob ⟨rfl, rfl⟩ rfl rfl <| X_ild rfl <| X_i <| X_is hM.pa (by first | omega | (simp (disch := omega) only [um_eq, um_na, um_ni, Int.toNat_natCast]; omega)) (by first | omega | (simp (disch := omega) only [um_eq, um_na, um_ni, Int.toNat_natCast]; omega)) rfl <| X_inc rfl (L' := [_, _, _, _, _, _]) rfl <| X_nil) ?_
      exact r1 r hr
  -- one turn
  have turn : ∀ (d s : Nat) (P Q : Nat → Int → Int) (w : Nat) (lf k : Int), s + d = z → P 76 19 = 60 → P 76 21 = 0 → P 76 20 = (w : Int) → w < z → (∀ k, ¬ (19 ≤ k ∧ k ≤ 21) → P 76 k = N 76 k) → (∀ a, a ≠ 76 → a ≠ 84 → P a = N a) → (∀ a, a ≠ 84 → Q a = P a) → (∀ t : Nat, t < z → Q 84 (t : Int) = P 84 (t : Int) + (if t < s then lT D b t + (if w = t then eT D b t else 0) else 0)) → ∃ Q', (∀ r, Rn S 176 108 ([], [some (vR 76), some (vI (c : Int)), some (vI (n : Int)), some (vI lf), some (vI k), some (vI (z : Int))], T, Q') r → Rn S 176 74 ([], [some (vR 76), some (vI (c : Int)), some (vI (n : Int)), some (vI lf), some (vI k), some (vI (s : Int))], T, Q) r) ∧ (∀ a, a ≠ 84 → Q' a = P a) ∧ (∀ t : Nat, t < z → Q' 84 (t : Int) = P 84 (t : Int) + (lT D b t + (if w = t then eT D b t else 0))) := by
    intro d
    induction d with
    | zero =>
      intro s P Q w lf k hs p1 p2 p3 hw p4 p5 q1 q2
      have es : s = z := by omega
      subst es
      have q77 : Q 77 = N 77 := by rw [q1 77 (by decide)]; exact p5 77 (by decide) (by decide)
      have e6 : Q 77 6 = (s : Int) := by rw [q77]; exact h6
      refine ⟨Q, fun r hr => ?_, q1, fun t ht => by rw [q2 t ht, if_pos ht]⟩
      refine Rn.cge rfl (X_ild rfl <| X_ald rfl <| X_gr 8 0 hM.ob ⟨rfl, rfl⟩ rfl rfl <| X_i <| X_ia hM.w (by first | omega | (simp (disch := omega) only [um_eq, um_na, um_ni, Int.toNat_natCast]; omega)) (by first | omega | (simp (disch := omega) only [um_eq, um_na, um_ni, Int.toNat_natCast]; omega)) rfl <| X_nil) (by first | omega | (simp (disch := omega) only [um_eq, um_na, um_ni, Int.toNat_natCast]; omega)) (by first | omega | (simp (disch := omega) only [um_eq, um_na, um_ni, Int.toNat_natCast]; omega)) (fun hc => ?_) (fun hc => absurd hc (by first | omega | decide | (simp (disch := omega) only [um_eq, um_na, um_ni, Int.toNat_natCast]; omega)))
      exact hr
    | succ d ih =>
      intro s P Q w lf k hs p1 p2 p3 hw p4 p5 q1 q2
      have q77 : Q 77 = N 77 := by rw [q1 77 (by decide)]; exact p5 77 (by decide) (by decide)
      have q76 : Q 76 = P 76 := q1 76 (by decide)
      have e6 : Q 77 6 = (z : Int) := by rw [q77]; exact h6
      have mq : MtOk D Q b z n := frame Q (fun k hk => by rw [q76]; exact p4 k hk) q77
      have c5 := h.2.2.2.2.2
      have tr := h.2.2.2.1 s (by omega)
      have cc := c_costOf (S := S) (M := Q) (s := s) hM (by omega) (by
        have e1 := mq.2.2.1 s (by omega) 1 (by decide) (by decide)
        rw [show Q 77 (63 + (s : Int)) = D (b + 16 + 2 * s) 1 by rw [← e1]; congr 1 <;> omega]
        exact tr.2.1) (by rw [q76, p1]; omega) (by rw [q76, p3]; omega) (by rw [q76, p4 18 (by decide), h18]; exact c5) (by rw [q76, p2]; exact Or.inl rfl)
      rw [mc_val mq (by omega) (by rw [q76]; exact p1) (by rw [q76]; exact p2), q76, p3] at cc
      have ecc : (if (w : Int) = (s : Int) then eT D b s else 0) = (if w = s then eT D b s else 0) := by
        by_cases c : w = s
        · rw [if_pos c, if_pos (by omega)]
        · rw [if_neg c, if_neg (by omega)]
      rw [ecc] at cc
      have q2s := q2 s (by omega)
      rw [if_neg (by omega), Int.add_zero] at q2s
      obtain ⟨Q', r1, r2, r3⟩ := ih (s + 1) P (um Q 84 (s : Int) (Q 84 (s : Int) + (lT D b s + (if w = s then eT D b s else 0)))) w lf k (by omega) p1 p2 p3 hw p4 p5 (fun a ha => by rw [um_fn ha]; exact q1 a ha) (fun t ht => by
        by_cases et : t = s
        · subst et
          rw [um_eq, q2s, if_pos (show t < t + 1 by omega)]
        · rw [um_ni (by omega), q2 t ht]
          by_cases c : t < s
          · rw [if_pos c, if_pos (show t < s + 1 by omega)]
          · rw [if_neg c, if_neg (show ¬ t < s + 1 by omega)])
      refine ⟨Q', fun r hr => ?_, r2, r3⟩
      refine Rn.cge rfl (X_ild rfl <| X_ald rfl <| X_gr 8 0 hM.ob ⟨rfl, rfl⟩ rfl rfl <| X_i <| X_ia hM.w (by first | omega | (simp (disch := omega) only [um_eq, um_na, um_ni, Int.toNat_natCast]; omega)) (by first | omega | (simp (disch := omega) only [um_eq, um_na, um_ni, Int.toNat_natCast]; omega)) rfl <| X_nil) (by first | omega | (simp (disch := omega) only [um_eq, um_na, um_ni, Int.toNat_natCast]; omega)) (by first | omega | (simp (disch := omega) only [um_eq, um_na, um_ni, Int.toNat_natCast]; omega)) (fun hc => absurd hc (by first | omega | decide | (simp (disch := omega) only [um_eq, um_na, um_ni, Int.toNat_natCast]; omega))) (fun hc => ?_)
      refine Rn.cal rfl (X_ald rfl <| X_gr 8 16 hM.ob ⟨rfl, rfl⟩ rfl rfl <| X_ild rfl <| X_du2 <| X_ia hM.pa (by first | omega | (simp (disch := omega) only [um_eq, um_na, um_ni, Int.toNat_natCast]; omega)) (by first | omega | (simp (disch := omega) only [um_eq, um_na, um_ni, Int.toNat_natCast]; omega)) rfl <| X_ald rfl <| X_ild rfl <| X_nil) (vs := [_, _]) (rest := [_, _, _]) rfl rfl rfl (rcv_v hM.ob (by decide)) (cc) ?_
      refine Rn.jto rfl (X_add <| X_is hM.pa (by first | omega | (simp (disch := omega) only [um_eq, um_na, um_ni, Int.toNat_natCast]; omega)) (by first | omega | (simp (disch := omega) only [um_eq, um_na, um_ni, Int.toNat_natCast]; omega)) rfl <| X_inc rfl (L' := [_, _, _, _, _, _]) rfl <| X_nil) ?_
      exact r1 r hr
  -- all turns
  have all : ∀ (m k lf : Nat) (P : Nat → Int → Int) (x : Option AV), k + m = n → lf < 5000 → P 76 19 = 60 → P 76 21 = 0 → (∀ k, ¬ (19 ≤ k ∧ k ≤ 21) → P 76 k = N 76 k) → (∀ a, a ≠ 76 → a ≠ 84 → P a = N a) → (∀ t : Nat, t < z → P 84 (t : Int) = (k : Int) * lT D b t + (((cnR z t n c : Nat) : Int) - ((cnR z t m lf : Nat) : Int)) * eT D b t) → ∃ P' y lf', (∀ r, Rn S 176 114 ([], [some (vR 76), some (vI (c : Int)), some (vI (n : Int)), some (vI lf'), some (vI (n : Int)), y], T, P') r → Rn S 176 42 ([], [some (vR 76), some (vI (c : Int)), some (vI (n : Int)), some (vI (lf : Int)), some (vI (k : Int)), x], T, P) r) ∧ (∀ k, ¬ (19 ≤ k ∧ k ≤ 21) → P' 76 k = N 76 k) ∧ (∀ a, a ≠ 76 → a ≠ 84 → P' a = N a) ∧ (∀ t : Nat, t < z → P' 84 (t : Int) = buT n (lT D b) (eT D b) t (cnR z t n c)) := by
    intro m
    induction m with
    | zero =>
      intro k lf P x hk hlf p1 p2 p3 p4 p5
      have ek : k = n := by omega
      subst ek
      refine ⟨P, x, (lf : Int), fun r hr => ?_, p3, p4, fun t ht => ?_⟩
      · refine Rn.cge rfl (X_ild rfl <| X_ild rfl <| X_nil) (by first | omega | (simp (disch := omega) only [um_eq, um_na, um_ni, Int.toNat_natCast]; omega)) (by first | omega | (simp (disch := omega) only [um_eq, um_na, um_ni, Int.toNat_natCast]; omega)) (fun hc => ?_) (fun hc => absurd hc (by first | omega | decide | (simp (disch := omega) only [um_eq, um_na, um_ni, Int.toNat_natCast]; omega)))
        exact hr
      · rw [p5 t ht]
        unfold buT
        rw [show ((cnR z t 0 lf : Nat) : Int) = 0 from rfl, Int.sub_zero]
    | succ m ih =>
      intro k lf P x hk hlf p1 p2 p3 p4 p5
      have p77 := p4 77 (by decide) (by decide)
      have e6 : P 77 6 = (z : Int) := by rw [p77]; exact h6
      have ml := Nat.mod_lt lf z4.1
      have dl := Nat.div_le_self lf z
      obtain ⟨Q, t1, t2, t3⟩ := turn z 0 (um P 76 20 ((lf % z : Nat) : Int)) (um P 76 20 ((lf % z : Nat) : Int)) (lf % z) ((lf / z : Nat) : Int) (k : Int) (by omega) (by rw [um_ni (by decide)]; exact p1) (by rw [um_ni (by decide)]; exact p2) um_eq ml (fun k hk => by rw [um_ni (by omega)]; exact p3 k hk) (fun a a1 a2 => by rw [um_fn a1]; exact p4 a a1 a2) (fun _ _ => rfl) (fun t _ => by rw [if_neg (by omega), Int.add_zero])
      have q76 := t2 76 (by decide)
      obtain ⟨P', y, lf', r1, r2, r3, r4⟩ := ih (k + 1) (lf / z) Q (some (vI (z : Int))) (by omega) (by omega) (by rw [q76, um_ni (by decide)]; exact p1) (by rw [q76, um_ni (by decide)]; exact p2) (fun k hk => by rw [q76, um_ni (by omega)]; exact p3 k hk) (fun a a1 a2 => by rw [t2 a a2, um_fn a1]; exact p4 a a1 a2) (fun t ht => by
        rw [t3 t ht, um_na (by decide), p5 t ht]
        have ec : cnR z t (m + 1) lf = cnR z t m (lf / z) + (if lf % z = t then 1 else 0) := rfl
        rw [ec]
        by_cases c : lf % z = t
        · rw [if_pos c, if_pos c, Int.natCast_add, Int.natCast_add, Int.sub_mul, Int.sub_mul, Int.add_mul, Int.add_mul]
          have e1 : ((1 : Nat) : Int) * lT D b t = lT D b t := Int.one_mul _
          have e2 : ((1 : Nat) : Int) * eT D b t = eT D b t := Int.one_mul _
          omega
        · rw [if_neg c, if_neg c, Nat.add_zero, Int.natCast_add, Int.add_mul]
          have e1 : ((1 : Nat) : Int) * lT D b t = lT D b t := Int.one_mul _
          omega)
      refine ⟨P', y, lf', fun r hr => ?_, r2, r3, r4⟩
      have nx := r1 r hr
      have ed : (lf : Int) / (z : Int) = ((lf / z : Nat) : Int) := (Int.natCast_ediv lf z).symm
      have em : (lf : Int) % (z : Int) = ((lf % z : Nat) : Int) := (Int.natCast_emod lf z).symm
      have u6 : um P 76 20 ((lf % z : Nat) : Int) 77 6 = (z : Int) := by rw [um_na (by decide)]; exact e6
      refine Rn.cge rfl (X_ild rfl <| X_ild rfl <| X_nil) (by first | omega | (simp (disch := omega) only [um_eq, um_na, um_ni, Int.toNat_natCast]; omega)) (by first | omega | (simp (disch := omega) only [um_eq, um_na, um_ni, Int.toNat_natCast]; omega)) (fun hc => ?_) (fun hc => ?_)
      · exact absurd hc (by omega)
      · refine Rn.fal rfl (X_ald rfl <| X_ild rfl <| X_ald rfl <| X_gr 8 0 hM.ob ⟨rfl, rfl⟩ rfl rfl <| X_i <| X_ia hM.w (by first | omega | (simp (disch := omega) only [um_eq, um_na, um_ni, Int.toNat_natCast]; omega)) (by first | omega | (simp (disch := omega) only [um_eq, um_na, um_ni, Int.toNat_natCast]; omega)) rfl <| X_rem (by first | omega | (simp (disch := omega) only [um_eq, um_na, um_ni, Int.toNat_natCast]; omega)) (by first | omega | (simp (disch := omega) only [um_eq, um_na, um_ni, Int.toNat_natCast]; omega)) <| X_pi 8 20 20 hM.ob ⟨rfl, rfl, rfl⟩ (Or.inl rfl) <| X_ild rfl <| X_ald rfl <| X_gr 8 0 hM.ob ⟨rfl, rfl⟩ rfl rfl <| X_i <| X_ia hM.w (by first | omega | (simp (disch := omega) only [um_eq, um_na, um_ni, Int.toNat_natCast]; omega)) (by first | omega | (simp (disch := omega) only [um_eq, um_na, um_ni, Int.toNat_natCast]; omega)) rfl <| X_div (by first | omega | (simp (disch := omega) only [um_eq, um_na, um_ni, Int.toNat_natCast]; omega)) (by first | omega | (simp (disch := omega) only [um_eq, um_na, um_ni, Int.toNat_natCast]; omega)) <| X_ist rfl (L' := [_, _, _, _, _, _]) rfl <| X_i <| X_ist rfl (L' := [_, _, _, _, _, _]) rfl <| X_nil) ?_
        simp (disch := omega) only [um_na, ne_eq, e6, ed, em]
        refine t1 _ ?_
        refine Rn.jto rfl (X_inc rfl (L' := [_, _, _, _, _, _]) rfl <| X_nil) ?_
        exact nx
  -- the most of them
  have fin : ∀ (d s : Nat) (P : Nat → Int → Int) (lf : Int), s + d = z → (∀ a, a ≠ 76 → a ≠ 84 → P a = N a) → (∀ t : Nat, t < z → P 84 (t : Int) = buT n (lT D b) (eT D b) t (cnR z t n c)) → Rn S 176 120 ([], [some (vR 76), some (vI (c : Int)), some (vI (n : Int)), some (vI lf), some (vI (mxT (fun s => buT n (lT D b) (eT D b) s (cnR z s n c)) s)), some (vI (s : Int))], T, P) (some (vI (moT z n (lT D b) (eT D b) c)), (T, P)) := by
    intro d
    induction d with
    | zero =>
      intro s P lf hs p4 p5
      have es : s = z := by omega
      subst es
      have p77 := p4 77 (by decide) (by decide)
      have e6 : P 77 6 = (s : Int) := by rw [p77]; exact h6
      refine Rn.cge rfl (X_ild rfl <| X_ald rfl <| X_gr 8 0 hM.ob ⟨rfl, rfl⟩ rfl rfl <| X_i <| X_ia hM.w (by first | omega | (simp (disch := omega) only [um_eq, um_na, um_ni, Int.toNat_natCast]; omega)) (by first | omega | (simp (disch := omega) only [um_eq, um_na, um_ni, Int.toNat_natCast]; omega)) rfl <| X_nil) (by first | omega | (simp (disch := omega) only [um_eq, um_na, um_ni, Int.toNat_natCast]; omega)) (by first | omega | (simp (disch := omega) only [um_eq, um_na, um_ni, Int.toNat_natCast]; omega)) (fun hc => ?_) (fun hc => absurd hc (by first | omega | decide | (simp (disch := omega) only [um_eq, um_na, um_ni, Int.toNat_natCast]; omega)))
      refine Rn.ri rfl (X_ild rfl <| X_nil) rfl
    | succ d ih =>
      intro s P lf hs p4 p5
      have nx := ih (s + 1) P lf (by omega) p4 p5
      have p77 := p4 77 (by decide) (by decide)
      have e6 : P 77 6 = (z : Int) := by rw [p77]; exact h6
      have ep := p5 s (by omega)
      have cl := fun s => cnR_le (z := z) (s := s) n c
      have y := h.bu (s := s) (o := cnR z s n c) (by omega) (by have := cl s; omega)
      have m0 := (mxT_ge (f := fun s => buT n (lT D b) (eT D b) s (cnR z s n c)) s).1
      have m1 := mxT_le (B := 30000) (f := fun s => buT n (lT D b) (eT D b) s (cnR z s n c)) (by decide) s (fun t ht => (h.bu (s := t) (o := cnR z t n c) (by omega) (by have := cl t; omega)).2)
      have cm := t_more (S := S) (h := (T, P)) (x := mxT (fun s => buT n (lT D b) (eT D b) s (cnR z s n c)) s) (y := buT n (lT D b) (eT D b) s (cnR z s n c)) (by omega) (by omega)
      rw [← ep] at cm
      refine Rn.cge rfl (X_ild rfl <| X_ald rfl <| X_gr 8 0 hM.ob ⟨rfl, rfl⟩ rfl rfl <| X_i <| X_ia hM.w (by first | omega | (simp (disch := omega) only [um_eq, um_na, um_ni, Int.toNat_natCast]; omega)) (by first | omega | (simp (disch := omega) only [um_eq, um_na, um_ni, Int.toNat_natCast]; omega)) rfl <| X_nil) (by first | omega | (simp (disch := omega) only [um_eq, um_na, um_ni, Int.toNat_natCast]; omega)) (by first | omega | (simp (disch := omega) only [um_eq, um_na, um_ni, Int.toNat_natCast]; omega)) (fun hc => absurd hc (by first | omega | decide | (simp (disch := omega) only [um_eq, um_na, um_ni, Int.toNat_natCast]; omega))) (fun hc => ?_)
      refine Rn.cal rfl (X_ild rfl <| X_ald rfl <| X_gr 8 16 hM.ob ⟨rfl, rfl⟩ rfl rfl <| X_ild rfl <| X_ia hM.pa (by first | omega | (simp (disch := omega) only [um_eq, um_na, um_ni, Int.toNat_natCast]; omega)) (by first | omega | (simp (disch := omega) only [um_eq, um_na, um_ni, Int.toNat_natCast]; omega)) rfl <| X_nil) (vs := [_, _]) (rest := []) rfl rfl rfl rfl (cm) ?_
      refine Rn.jto rfl (X_ist rfl (L' := [_, _, _, _, _, _]) rfl <| X_inc rfl (L' := [_, _, _, _, _, _]) rfl <| X_nil) ?_
      rw [ep]
      exact nx
  obtain ⟨P1, f1, f2, f3, f4, f5, f6⟩ := zero z 0 (um (um N 76 19 60) 76 21 0) (by omega) (by rw [um_ni (by decide), um_eq]) um_eq (fun k hk => by rw [um_ni (by omega), um_ni (by omega)]) (fun a a1 a2 => by rw [um_fn a1, um_fn a1]) (fun t ht => by omega)
  obtain ⟨P2, y, lf', g1, g2, g3, g4⟩ := all n 0 c P1 none (by omega) hc f2 f3 f4 f5 (fun t ht => by rw [f6 t ht, Int.sub_self, Int.zero_mul, show ((0 : Nat) : Int) = 0 from rfl, Int.zero_mul]; rfl)
  refine ⟨P2, ⟨_, rfl, ?_⟩, g2, g3⟩
  refine Rn.fal rfl (X_ald rfl <| X_i <| X_pi 8 19 19 hM.ob ⟨rfl, rfl, rfl⟩ (Or.inl rfl) <| X_ald rfl <| X_i <| X_pi 8 21 21 hM.ob ⟨rfl, rfl, rfl⟩ (Or.inl rfl) <| X_i <| X_ist rfl (L' := [_, _, _, _, _, _]) rfl <| X_nil) ?_
  refine f1 _ ?_
  refine Rn.fal rfl (X_ild rfl <| X_ist rfl (L' := [_, _, _, _, _, _]) rfl <| X_i <| X_ist rfl (L' := [_, _, _, _, _, _]) rfl <| X_nil) ?_
  refine g1 _ ?_
  refine Rn.fal rfl (X_i <| X_ist rfl (L' := [_, _, _, _, _, _]) rfl <| X_i <| X_ist rfl (L' := [_, _, _, _, _, _]) rfl <| X_nil) ?_
  exact fin z 0 P2 lf' (by omega) g3 g4
end TurnsC
