/-! BED -/
section Bed
variable {S : List Int} {T : List Sh} {M N C : Nat → Int → Int} {K : Nat} {h : Hp}
/-- the first cell of those that are free and nearest, among the first n -/
def bst (M : Nat → Int → Int) (D : Nat → Int) : Nat → Int
  | 0 => -1
  | n + 1 => if (¬ (n : Int) = M 2 2) ∧ M 3 (n : Int) = 0 ∧ (bst M D n = -1 ∨ D n < D (bst M D n).toNat) then (n : Int) else bst M D n
theorem bst_in {D : Nat → Int} : ∀ n : Nat, -1 ≤ bst M D n ∧ bst M D n < (n : Int)
  | 0 => by unfold bst; omega
  | n + 1 => by
    have := bst_in (D := D) n
    unfold bst
    split <;> omega
theorem bst_no {D : Nat → Int} {n : Nat} (hn : ¬ ((¬ (n : Int) = M 2 2) ∧ M 3 (n : Int) = 0 ∧ (bst M D n = -1 ∨ D n < D (bst M D n).toNat))) : bst M D (n + 1) = bst M D n := by
  show (if _ then _ else _) = _
  rw [if_neg hn]
theorem bst_yes {D : Nat → Int} {n : Nat} (hn : (¬ (n : Int) = M 2 2) ∧ M 3 (n : Int) = 0 ∧ (bst M D n = -1 ∨ D n < D (bst M D n).toNat)) : bst M D (n + 1) = (n : Int) := by
  show (if _ then _ else _) = _
  rw [if_pos hn]
theorem op_bed (g : Gl T M K) : Op S 82 155 [] T M K := by
  have hX := g.x
  have hM := g.m
  have hS := hX.s1
  have hw := g.w
  have hm := g.wm
  have hn : 1 ≤ M 2 0 * M 2 1 ∧ M 2 0 * M 2 1 ≤ 49 := g.rg.fl.1.n
  have f2 : 0 ≤ M 2 2 ∧ M 2 2 < M 2 0 * M 2 1 := g.rg.fl.1.2.2.1
  have f6 : ∀ c, 0 ≤ c → c < 49 → 0 ≤ M 3 c ∧ M 3 c ≤ 9 := g.rg.fl.1.2.2.2.2.2.2
  obtain ⟨w, hh, e0, e1, w7, hh7, ewh, hwh⟩ := g.wh
  obtain ⟨j, ej⟩ : ∃ j : Nat, M 2 2 = (j : Int) := ⟨(M 2 2).toNat, by omega⟩
  have hj : j < w * hh := by omega
  obtain ⟨M1, c1, fr1, hD⟩ := c_measure (S := S) (M := M) (b := 1) (w := w) (hh := hh) (e := j) hS g.rg.fl.1 e0 e1 hj
  have m77 : M1 77 = M 77 := fr1 77 (by decide)
  have m2 : M1 2 = M 2 := fr1 2 (by decide)
  have m3 : M1 3 = M 3 := fr1 3 (by decide)
  have hle : ∀ i : Nat, i < w * hh → 0 ≤ M1 4 (i : Int) ∧ M1 4 (i : Int) ≤ 200 := fun i hi => WayIs.le (M := M) (b := 1) (s := i) (e := j) (v := M1 4 (i : Int)) g.rg.fl.1 (show (i : Int) < M 2 0 * M 2 1 by omega) (show (j : Int) < M 2 0 * M 2 1 by omega) ⟨fun a => M1 4 (a : Int), by
    show IsW M 1 (M 2 0).toNat (M 2 1).toNat j (fun a => M1 4 (a : Int))
    rw [e0, e1, Int.toNat_natCast, Int.toNat_natCast]
    exact hD, rfl⟩
  generalize hn' : w * hh = n at *
  let D : Nat → Int := fun a => M1 4 (a : Int)
  have r2 : ∀ k, M1 (1 + 1) k = M 2 k := fun k => by show M1 2 k = M 2 k; rw [m2]
  have r3 : ∀ k, M1 (1 + 2) k = M 3 k := fun k => by show M1 3 k = M 3 k; rw [m3]
  have nn : M1 (1 + 1) 0 * M1 (1 + 1) 1 = (n : Int) := by rw [r2, r2]; exact ewh
  have loop : ∀ (k c : Nat), c + k = n → Rn S 23 12 ([], [some (vR (1 + 1)), some (vI (bst M D c)), some (vI (c : Int))], T, M1) (some (vI (bst M D n)), (T, M1)) := by
    intro k
    induction k with
    | zero =>
      intro c hc
      have ec : c = n := by omega
      subst ec
      refine Rn.cge rfl (X_ild rfl <| X_ald rfl <| X_gi 1 0 0 hS.fl ⟨rfl, rfl, rfl⟩ (Or.inl rfl) <| X_ald rfl <| X_gi 1 1 1 hS.fl ⟨rfl, rfl, rfl⟩ (Or.inl rfl) <| X_mul <| X_nil) (by first | omega | (simp (disch := omega) only [um_eq, um_na, um_ni, Int.toNat_natCast]; omega)) (by first | omega | (simp (disch := omega) only [um_eq, um_na, um_ni, Int.toNat_natCast]; omega)) (fun hc => ?_) (fun hc => absurd hc (by first | omega | decide | (simp (disch := omega) only [um_eq, um_na, um_ni, Int.toNat_natCast]; omega)))
      refine Rn.ri rfl (X_ild rfl <| X_nil) rfl
    | succ k ih =>
      intro c hc
      have nx := ih (c + 1) (by omega)
      have bi := bst_in (M := M) (D := D) c
      have wc := hle c (by omega)
      have t9 := f6 c (by omega) (by omega)
      have s22 := r2 2
      have s3 := r3 (c : Int)
      have step : ∀ v, bst M D (c + 1) = v → Rn S 23 64 ([], [some (vR (1 + 1)), some (vI v), some (vI (c : Int))], T, M1) (some (vI (bst M D n)), (T, M1)) := by
        intro v hv
        rw [hv] at nx
        refine Rn.jto rfl (X_inc rfl (L' := [_, _, _]) rfl <| X_nil) ?_
        exact nx
      refine Rn.cge rfl (X_ild rfl <| X_ald rfl <| X_gi 1 0 0 hS.fl ⟨rfl, rfl, rfl⟩ (Or.inl rfl) <| X_ald rfl <| X_gi 1 1 1 hS.fl ⟨rfl, rfl, rfl⟩ (Or.inl rfl) <| X_mul <| X_nil) (by first | omega | (simp (disch := omega) only [um_eq, um_na, um_ni, Int.toNat_natCast]; omega)) (by first | omega | (simp (disch := omega) only [um_eq, um_na, um_ni, Int.toNat_natCast]; omega)) (fun hc => absurd hc (by first | omega | decide | (simp (disch := omega) only [um_eq, um_na, um_ni, Int.toNat_natCast]; omega))) (fun hc => ?_)
      by_cases q1 : (c : Int) = M 2 2
      · have st := step _ (bst_no (fun z => z.1 q1))
        refine Rn.ceq rfl (X_ild rfl <| X_ald rfl <| X_gi 1 2 2 hS.fl ⟨rfl, rfl, rfl⟩ (Or.inl rfl) <| X_nil) (by first | omega | (simp (disch := omega) only [um_eq, um_na, um_ni, Int.toNat_natCast]; omega)) (by first | omega | (simp (disch := omega) only [um_eq, um_na, um_ni, Int.toNat_natCast]; omega)) (fun hc => ?_) (fun hc => absurd hc (by first | omega | decide | (simp (disch := omega) only [um_eq, um_na, um_ni, Int.toNat_natCast]; omega)))
        exact st
      by_cases q2 : M 3 (c : Int) = 0
      case neg =>
        have st := step _ (bst_no (fun z => q2 z.2.1))
        refine Rn.ceq rfl (X_ild rfl <| X_ald rfl <| X_gi 1 2 2 hS.fl ⟨rfl, rfl, rfl⟩ (Or.inl rfl) <| X_nil) (by first | omega | (simp (disch := omega) only [um_eq, um_na, um_ni, Int.toNat_natCast]; omega)) (by first | omega | (simp (disch := omega) only [um_eq, um_na, um_ni, Int.toNat_natCast]; omega)) (fun hc => absurd hc (by first | omega | decide | (simp (disch := omega) only [um_eq, um_na, um_ni, Int.toNat_natCast]; omega))) (fun hc => ?_)
        refine Rn.ine rfl (X_ald rfl <| X_gr 1 6 hS.fl ⟨rfl, rfl⟩ rfl rfl <| X_ild rfl <| X_ia hS.th (by first | omega | (simp (disch := omega) only [um_eq, um_na, um_ni, Int.toNat_natCast]; omega)) (by first | omega | (simp (disch := omega) only [um_eq, um_na, um_ni, Int.toNat_natCast]; omega)) rfl <| X_nil) (by first | omega | (simp (disch := omega) only [um_eq, um_na, um_ni, Int.toNat_natCast]; omega)) (fun hc => ?_) (fun hc => absurd hc (by first | omega | decide | (simp (disch := omega) only [um_eq, um_na, um_ni, Int.toNat_natCast]; omega)))
        exact st
      by_cases q3 : bst M D c = -1
      · have st := step _ (bst_yes ⟨q1, q2, Or.inl q3⟩)
        refine Rn.ceq rfl (X_ild rfl <| X_ald rfl <| X_gi 1 2 2 hS.fl ⟨rfl, rfl, rfl⟩ (Or.inl rfl) <| X_nil) (by first | omega | (simp (disch := omega) only [um_eq, um_na, um_ni, Int.toNat_natCast]; omega)) (by first | omega | (simp (disch := omega) only [um_eq, um_na, um_ni, Int.toNat_natCast]; omega)) (fun hc => absurd hc (by first | omega | decide | (simp (disch := omega) only [um_eq, um_na, um_ni, Int.toNat_natCast]; omega))) (fun hc => ?_)
        refine Rn.ine rfl (X_ald rfl <| X_gr 1 6 hS.fl ⟨rfl, rfl⟩ rfl rfl <| X_ild rfl <| X_ia hS.th (by first | omega | (simp (disch := omega) only [um_eq, um_na, um_ni, Int.toNat_natCast]; omega)) (by first | omega | (simp (disch := omega) only [um_eq, um_na, um_ni, Int.toNat_natCast]; omega)) rfl <| X_nil) (by first | omega | (simp (disch := omega) only [um_eq, um_na, um_ni, Int.toNat_natCast]; omega)) (fun hc => absurd hc (by first | omega | decide | (simp (disch := omega) only [um_eq, um_na, um_ni, Int.toNat_natCast]; omega))) (fun hc => ?_)
        refine Rn.ceq rfl (X_ild rfl <| X_i <| X_nil) (by first | omega | (simp (disch := omega) only [um_eq, um_na, um_ni, Int.toNat_natCast]; omega)) (by first | omega | (simp (disch := omega) only [um_eq, um_na, um_ni, Int.toNat_natCast]; omega)) (fun hc => ?_) (fun hc => absurd hc (by first | omega | decide | (simp (disch := omega) only [um_eq, um_na, um_ni, Int.toNat_natCast]; omega)))
        refine Rn.fal rfl (X_ild rfl <| X_ist rfl (L' := [_, _, _]) rfl <| X_nil) ?_
        exact st
      · have hb := hle (bst M D c).toNat (by omega)
        have eb : (((bst M D c).toNat : Nat) : Int) = bst M D c := by omega
        rw [eb] at hb
        have h13 : M1 (1 + 3) = M1 4 := rfl
        by_cases q4 : M1 4 (c : Int) < M1 4 (bst M D c)
        · have q5 : M1 (1 + 3) (c : Int) < M1 (1 + 3) (bst M D c) := q4
          have st := step _ (bst_yes ⟨q1, q2, Or.inr (by show M1 4 (c : Int) < M1 4 (((bst M D c).toNat : Nat) : Int); rw [eb]; exact q4)⟩)
          refine Rn.ceq rfl (X_ild rfl <| X_ald rfl <| X_gi 1 2 2 hS.fl ⟨rfl, rfl, rfl⟩ (Or.inl rfl) <| X_nil) (by first | omega | (simp (disch := omega) only [um_eq, um_na, um_ni, Int.toNat_natCast]; omega)) (by first | omega | (simp (disch := omega) only [um_eq, um_na, um_ni, Int.toNat_natCast]; omega)) (fun hc => absurd hc (by first | omega | decide | (simp (disch := omega) only [um_eq, um_na, um_ni, Int.toNat_natCast]; omega))) (fun hc => ?_)
          refine Rn.ine rfl (X_ald rfl <| X_gr 1 6 hS.fl ⟨rfl, rfl⟩ rfl rfl <| X_ild rfl <| X_ia hS.th (by first | omega | (simp (disch := omega) only [um_eq, um_na, um_ni, Int.toNat_natCast]; omega)) (by first | omega | (simp (disch := omega) only [um_eq, um_na, um_ni, Int.toNat_natCast]; omega)) rfl <| X_nil) (by first | omega | (simp (disch := omega) only [um_eq, um_na, um_ni, Int.toNat_natCast]; omega)) (fun hc => absurd hc (by first | omega | decide | (simp (disch := omega) only [um_eq, um_na, um_ni, Int.toNat_natCast]; omega))) (fun hc => ?_)
          refine Rn.ceq rfl (X_ild rfl <| X_i <| X_nil) (by first | omega | (simp (disch := omega) only [um_eq, um_na, um_ni, Int.toNat_natCast]; omega)) (by first | omega | (simp (disch := omega) only [um_eq, um_na, um_ni, Int.toNat_natCast]; omega)) (fun hc => absurd hc (by first | omega | decide | (simp (disch := omega) only [um_eq, um_na, um_ni, Int.toNat_natCast]; omega))) (fun hc => ?_)
          refine Rn.cge rfl (X_ald rfl <| X_gr 1 7 hS.fl ⟨rfl, rfl⟩ rfl rfl <| X_ild rfl <| X_ia hS.wy (by first | omega | (simp (disch := omega) only [um_eq, um_na, um_ni, Int.toNat_natCast]; omega)) (by first | omega | (simp (disch := omega) only [um_eq, um_na, um_ni, Int.toNat_natCast]; omega)) rfl <| X_ald rfl <| X_gr 1 7 hS.fl ⟨rfl, rfl⟩ rfl rfl <| X_ild rfl <| X_ia hS.wy (by first | omega | (simp (disch := omega) only [um_eq, um_na, um_ni, Int.toNat_natCast]; omega)) (by first | omega | (simp (disch := omega) only [um_eq, um_na, um_ni, Int.toNat_natCast]; omega)) rfl <| X_nil) (by rw [h13]; omega) (by rw [h13]; omega) (fun hc => absurd hc (by first | omega | decide | (simp (disch := omega) only [um_eq, um_na, um_ni, Int.toNat_natCast]; omega))) (fun hc => ?_)
          refine Rn.fal rfl (X_ild rfl <| X_ist rfl (L' := [_, _, _]) rfl <| X_nil) ?_
          exact st
        · have q5 : ¬ M1 (1 + 3) (c : Int) < M1 (1 + 3) (bst M D c) := q4
          have st := step _ (bst_no (fun z => by
            rcases z.2.2 with y | y
            · exact q3 y
            · have y : M1 4 (c : Int) < M1 4 (((bst M D c).toNat : Nat) : Int) := y
              rw [eb] at y
              exact q4 y))
          refine Rn.ceq rfl (X_ild rfl <| X_ald rfl <| X_gi 1 2 2 hS.fl ⟨rfl, rfl, rfl⟩ (Or.inl rfl) <| X_nil) (by first | omega | (simp (disch := omega) only [um_eq, um_na, um_ni, Int.toNat_natCast]; omega)) (by first | omega | (simp (disch := omega) only [um_eq, um_na, um_ni, Int.toNat_natCast]; omega)) (fun hc => absurd hc (by first | omega | decide | (simp (disch := omega) only [um_eq, um_na, um_ni, Int.toNat_natCast]; omega))) (fun hc => ?_)
          refine Rn.ine rfl (X_ald rfl <| X_gr 1 6 hS.fl ⟨rfl, rfl⟩ rfl rfl <| X_ild rfl <| X_ia hS.th (by first | omega | (simp (disch := omega) only [um_eq, um_na, um_ni, Int.toNat_natCast]; omega)) (by first | omega | (simp (disch := omega) only [um_eq, um_na, um_ni, Int.toNat_natCast]; omega)) rfl <| X_nil) (by first | omega | (simp (disch := omega) only [um_eq, um_na, um_ni, Int.toNat_natCast]; omega)) (fun hc => absurd hc (by first | omega | decide | (simp (disch := omega) only [um_eq, um_na, um_ni, Int.toNat_natCast]; omega))) (fun hc => ?_)
          refine Rn.ceq rfl (X_ild rfl <| X_i <| X_nil) (by first | omega | (simp (disch := omega) only [um_eq, um_na, um_ni, Int.toNat_natCast]; omega)) (by first | omega | (simp (disch := omega) only [um_eq, um_na, um_ni, Int.toNat_natCast]; omega)) (fun hc => absurd hc (by first | omega | decide | (simp (disch := omega) only [um_eq, um_na, um_ni, Int.toNat_natCast]; omega))) (fun hc => ?_)
          refine Rn.cge rfl (X_ald rfl <| X_gr 1 7 hS.fl ⟨rfl, rfl⟩ rfl rfl <| X_ild rfl <| X_ia hS.wy (by first | omega | (simp (disch := omega) only [um_eq, um_na, um_ni, Int.toNat_natCast]; omega)) (by first | omega | (simp (disch := omega) only [um_eq, um_na, um_ni, Int.toNat_natCast]; omega)) rfl <| X_ald rfl <| X_gr 1 7 hS.fl ⟨rfl, rfl⟩ rfl rfl <| X_ild rfl <| X_ia hS.wy (by first | omega | (simp (disch := omega) only [um_eq, um_na, um_ni, Int.toNat_natCast]; omega)) (by first | omega | (simp (disch := omega) only [um_eq, um_na, um_ni, Int.toNat_natCast]; omega)) rfl <| X_nil) (by rw [h13]; omega) (by rw [h13]; omega) (fun hc => ?_) (fun hc => absurd hc (by first | omega | decide | (simp (disch := omega) only [um_eq, um_na, um_ni, Int.toNat_natCast]; omega)))
          exact st
  let lst : Nat → Int := fun c => if bst M D c = -1 then Big else D (bst M D c).toNat
  have hBig : Big = 1000000000 := rfl
  have lin : ∀ c, c ≤ n → 0 ≤ lst c ∧ lst c ≤ Big ∧ (¬ bst M D c = -1 → lst c = D (bst M D c).toNat) ∧ (bst M D c = -1 → lst c = Big) := by
    intro c hc
    have bi := bst_in (M := M) (D := D) c
    show 0 ≤ (if bst M D c = -1 then Big else D (bst M D c).toNat) ∧ (if bst M D c = -1 then Big else D (bst M D c).toNat) ≤ Big ∧ (¬ bst M D c = -1 → (if bst M D c = -1 then Big else D (bst M D c).toNat) = D (bst M D c).toNat) ∧ (bst M D c = -1 → (if bst M D c = -1 then Big else D (bst M D c).toNat) = Big)
    by_cases q : bst M D c = -1
    · rw [if_pos q]
      exact ⟨by omega, by omega, fun z => absurd q z, fun _ => rfl⟩
    · rw [if_neg q]
      have hb : 0 ≤ D (bst M D c).toNat ∧ D (bst M D c).toNat ≤ 200 := hle (bst M D c).toNat (by omega)
      exact ⟨by omega, by omega, fun _ => rfl, fun z => absurd z q⟩
  have mloop : ∀ (k c : Nat) (N : Nat → Int → Int) (x4 : Option AV), c + k = n → (∀ a, a ≠ 81 → N a = M1 a) → ∃ N', Rn S 155 7 ([], [some (vR 76), some (vI (bst M D c)), some (vI (lst c)), some (vI (c : Int)), x4], T, N) (some (vI (bst M D n)), (T, N')) ∧ (∀ a, a ≠ 81 → N' a = M1 a) := by
    intro k
    induction k with
    | zero =>
      intro c N x4 hc hN
      have ec : c = n := by omega
      subst ec
      have n77 : N 77 = M 77 := by rw [hN 77 (by decide), m77]
      have nn : N 77 0 * N 77 1 = (c : Int) := by rw [n77, hm.1, hm.2]; exact ewh
      refine ⟨N, ?_, hN⟩
      refine Rn.cge rfl (X_ild rfl <| X_ald rfl <| X_gr 8 0 hM.ob ⟨rfl, rfl⟩ rfl rfl <| X_i <| X_ia hM.w (by first | omega | (simp (disch := omega) only [um_eq, um_na, um_ni, Int.toNat_natCast]; omega)) (by first | omega | (simp (disch := omega) only [um_eq, um_na, um_ni, Int.toNat_natCast]; omega)) rfl <| X_ald rfl <| X_gr 8 0 hM.ob ⟨rfl, rfl⟩ rfl rfl <| X_i <| X_ia hM.w (by first | omega | (simp (disch := omega) only [um_eq, um_na, um_ni, Int.toNat_natCast]; omega)) (by first | omega | (simp (disch := omega) only [um_eq, um_na, um_ni, Int.toNat_natCast]; omega)) rfl <| X_mul <| X_nil) (by first | omega | (simp (disch := omega) only [um_eq, um_na, um_ni, Int.toNat_natCast]; omega)) (by first | omega | (simp (disch := omega) only [um_eq, um_na, um_ni, Int.toNat_natCast]; omega)) (fun hc => ?_) (fun hc => absurd hc (by first | omega | decide | (simp (disch := omega) only [um_eq, um_na, um_ni, Int.toNat_natCast]; omega)))
      refine Rn.ri rfl (X_ild rfl <| X_nil) rfl
    | succ k ih =>
      intro c N x4 hc0 hN
      have n77 : N 77 = M 77 := by rw [hN 77 (by decide), m77]
      have nn : N 77 0 * N 77 1 = (n : Int) := by rw [n77, hm.1, hm.2]; exact ewh
      have n2 : N 77 2 = M 2 2 := by rw [n77]; exact g.flI (by decide) (by decide)
      have ft : M 3 (c : Int) = M 77 (0 + 10 + (c : Int)) := g.rg.t c (by omega) (by omega)
      rw [Int.zero_add] at ft
      have n10 : N 77 (10 + (c : Int)) = M 3 (c : Int) := by rw [n77]; exact ft.symm
      have bi := bst_in (M := M) (D := D) c
      have wc := hle c (by omega)
      have t9 := f6 c (by omega) (by omega)
      have li := lin c (by omega)
      have eD : D c = M1 4 (c : Int) := rfl
      have step : ∀ (P : Nat → Int → Int) (y4 : Option AV) (v l : Int), (∀ a, a ≠ 81 → P a = M1 a) → bst M D (c + 1) = v → lst (c + 1) = l → ∃ N', Rn S 155 84 ([], [some (vR 76), some (vI v), some (vI l), some (vI (c : Int)), y4], T, P) (some (vI (bst M D n)), (T, N')) ∧ (∀ a, a ≠ 81 → N' a = M1 a) := by
        intro P y4 v l hP hv hl
        obtain ⟨N', r, f⟩ := ih (c + 1) P y4 (by omega) hP
        rw [hv, hl] at r
        refine ⟨N', ?_, f⟩
        refine Rn.jto rfl (X_inc rfl (L' := [_, _, _, _, _]) rfl <| X_nil) ?_
        exact r
      have lsame : bst M D (c + 1) = bst M D c → lst (c + 1) = lst c := by
        intro z
        show (if bst M D (c + 1) = -1 then Big else D (bst M D (c + 1)).toNat) = (if bst M D c = -1 then Big else D (bst M D c).toNat)
        rw [z]
      by_cases q1 : (c : Int) = M 2 2
      · have hb := bst_no (M := M) (D := D) (n := c) (fun z => z.1 q1)
        obtain ⟨N', r, f⟩ := step N x4 _ _ hN hb (lsame hb)
        refine ⟨N', ?_, f⟩
        refine Rn.cge rfl (X_ild rfl <| X_ald rfl <| X_gr 8 0 hM.ob ⟨rfl, rfl⟩ rfl rfl <| X_i <| X_ia hM.w (by first | omega | (simp (disch := omega) only [um_eq, um_na, um_ni, Int.toNat_natCast]; omega)) (by first | omega | (simp (disch := omega) only [um_eq, um_na, um_ni, Int.toNat_natCast]; omega)) rfl <| X_ald rfl <| X_gr 8 0 hM.ob ⟨rfl, rfl⟩ rfl rfl <| X_i <| X_ia hM.w (by first | omega | (simp (disch := omega) only [um_eq, um_na, um_ni, Int.toNat_natCast]; omega)) (by first | omega | (simp (disch := omega) only [um_eq, um_na, um_ni, Int.toNat_natCast]; omega)) rfl <| X_mul <| X_nil) (by first | omega | (simp (disch := omega) only [um_eq, um_na, um_ni, Int.toNat_natCast]; omega)) (by first | omega | (simp (disch := omega) only [um_eq, um_na, um_ni, Int.toNat_natCast]; omega)) (fun hc => absurd hc (by first | omega | decide | (simp (disch := omega) only [um_eq, um_na, um_ni, Int.toNat_natCast]; omega))) (fun hc => ?_)
        refine Rn.ceq rfl (X_ild rfl <| X_ald rfl <| X_gr 8 0 hM.ob ⟨rfl, rfl⟩ rfl rfl <| X_i <| X_ia hM.w (by first | omega | (simp (disch := omega) only [um_eq, um_na, um_ni, Int.toNat_natCast]; omega)) (by first | omega | (simp (disch := omega) only [um_eq, um_na, um_ni, Int.toNat_natCast]; omega)) rfl <| X_nil) (by first | omega | (simp (disch := omega) only [um_eq, um_na, um_ni, Int.toNat_natCast]; omega)) (by first | omega | (simp (disch := omega) only [um_eq, um_na, um_ni, Int.toNat_natCast]; omega)) (fun hc => ?_) (fun hc => absurd hc (by first | omega | decide | (simp (disch := omega) only [um_eq, um_na, um_ni, Int.toNat_natCast]; omega)))
        exact r
      by_cases q2 : M 3 (c : Int) = 0
      case neg =>
        have hb := bst_no (M := M) (D := D) (n := c) (fun z => q2 z.2.1)
        obtain ⟨N', r, f⟩ := step N x4 _ _ hN hb (lsame hb)
        refine ⟨N', ?_, f⟩
        refine Rn.cge rfl (X_ild rfl <| X_ald rfl <| X_gr 8 0 hM.ob ⟨rfl, rfl⟩ rfl rfl <| X_i <| X_ia hM.w (by first | omega | (simp (disch := omega) only [um_eq, um_na, um_ni, Int.toNat_natCast]; omega)) (by first | omega | (simp (disch := omega) only [um_eq, um_na, um_ni, Int.toNat_natCast]; omega)) rfl <| X_ald rfl <| X_gr 8 0 hM.ob ⟨rfl, rfl⟩ rfl rfl <| X_i <| X_ia hM.w (by first | omega | (simp (disch := omega) only [um_eq, um_na, um_ni, Int.toNat_natCast]; omega)) (by first | omega | (simp (disch := omega) only [um_eq, um_na, um_ni, Int.toNat_natCast]; omega)) rfl <| X_mul <| X_nil) (by first | omega | (simp (disch := omega) only [um_eq, um_na, um_ni, Int.toNat_natCast]; omega)) (by first | omega | (simp (disch := omega) only [um_eq, um_na, um_ni, Int.toNat_natCast]; omega)) (fun hc => absurd hc (by first | omega | decide | (simp (disch := omega) only [um_eq, um_na, um_ni, Int.toNat_natCast]; omega))) (fun hc => ?_)
        refine Rn.ceq rfl (X_ild rfl <| X_ald rfl <| X_gr 8 0 hM.ob ⟨rfl, rfl⟩ rfl rfl <| X_i <| X_ia hM.w (by first | omega | (simp (disch := omega) only [um_eq, um_na, um_ni, Int.toNat_natCast]; omega)) (by first | omega | (simp (disch := omega) only [um_eq, um_na, um_ni, Int.toNat_natCast]; omega)) rfl <| X_nil) (by first | omega | (simp (disch := omega) only [um_eq, um_na, um_ni, Int.toNat_natCast]; omega)) (by first | omega | (simp (disch := omega) only [um_eq, um_na, um_ni, Int.toNat_natCast]; omega)) (fun hc => absurd hc (by first | omega | decide | (simp (disch := omega) only [um_eq, um_na, um_ni, Int.toNat_natCast]; omega))) (fun hc => ?_)
        refine Rn.ine rfl (X_ald rfl <| X_gr 8 0 hM.ob ⟨rfl, rfl⟩ rfl rfl <| X_i <| X_ild rfl <| X_add <| X_ia hM.w (by first | omega | (simp (disch := omega) only [um_eq, um_na, um_ni, Int.toNat_natCast]; omega)) (by first | omega | (simp (disch := omega) only [um_eq, um_na, um_ni, Int.toNat_natCast]; omega)) rfl <| X_nil) (by first | omega | (simp (disch := omega) only [um_eq, um_na, um_ni, Int.toNat_natCast]; omega)) (fun hc => ?_) (fun hc => absurd hc (by first | omega | decide | (simp (disch := omega) only [um_eq, um_na, um_ni, Int.toNat_natCast]; omega)))
        exact r
      obtain ⟨P, c2, fP, hR, hF⟩ := c_wayOf (S := S) (M := N) (w := w) (hh := hh) (s := c) (e := j) hM (by rw [n77, hm.1]; exact e0) (by rw [n77, hm.2]; exact e1) w7 hh7 (by rw [n77]; exact g.thM) (by omega) (by omega)
      have hP : ∀ a, a ≠ 81 → P a = M1 a := fun a ha => by rw [fP a ha]; exact hN a ha
      have hsame : M1 4 (c : Int) = P 81 (j : Int) := way_same (N := N) (w := w) (hh := hh) (s := c) (e := j) (D := fun a => M1 4 (a : Int)) (F := fun a => P 81 (a : Int)) g n77 e0 e1 w7.1 (by omega) (by omega) (by omega) hD hR hF
      rw [← hsame, ← ej, ← n2] at c2
      by_cases q3 : M1 4 (c : Int) < lst c
      · have hb : bst M D (c + 1) = (c : Int) := by
          refine bst_yes ⟨q1, q2, ?_⟩
          by_cases q4 : bst M D c = -1
          · exact Or.inl q4
          · exact Or.inr (by rw [← li.2.2.1 q4]; exact q3)
        have hl : lst (c + 1) = M1 4 (c : Int) := by
          have := (lin (c + 1) (by omega)).2.2.1 (by rw [hb]; omega)
          rw [hb, Int.toNat_natCast] at this
          exact this
        obtain ⟨N', r, f⟩ := step P (some (vI (M1 4 (c : Int)))) _ _ hP hb hl
        refine ⟨N', ?_, f⟩
        refine Rn.cge rfl (X_ild rfl <| X_ald rfl <| X_gr 8 0 hM.ob ⟨rfl, rfl⟩ rfl rfl <| X_i <| X_ia hM.w (by first | omega | (simp (disch := omega) only [um_eq, um_na, um_ni, Int.toNat_natCast]; omega)) (by first | omega | (simp (disch := omega) only [um_eq, um_na, um_ni, Int.toNat_natCast]; omega)) rfl <| X_ald rfl <| X_gr 8 0 hM.ob ⟨rfl, rfl⟩ rfl rfl <| X_i <| X_ia hM.w (by first | omega | (simp (disch := omega) only [um_eq, um_na, um_ni, Int.toNat_natCast]; omega)) (by first | omega | (simp (disch := omega) only [um_eq, um_na, um_ni, Int.toNat_natCast]; omega)) rfl <| X_mul <| X_nil) (by first | omega | (simp (disch := omega) only [um_eq, um_na, um_ni, Int.toNat_natCast]; omega)) (by first | omega | (simp (disch := omega) only [um_eq, um_na, um_ni, Int.toNat_natCast]; omega)) (fun hc => absurd hc (by first | omega | decide | (simp (disch := omega) only [um_eq, um_na, um_ni, Int.toNat_natCast]; omega))) (fun hc => ?_)
        refine Rn.ceq rfl (X_ild rfl <| X_ald rfl <| X_gr 8 0 hM.ob ⟨rfl, rfl⟩ rfl rfl <| X_i <| X_ia hM.w (by first | omega | (simp (disch := omega) only [um_eq, um_na, um_ni, Int.toNat_natCast]; omega)) (by first | omega | (simp (disch := omega) only [um_eq, um_na, um_ni, Int.toNat_natCast]; omega)) rfl <| X_nil) (by first | omega | (simp (disch := omega) only [um_eq, um_na, um_ni, Int.toNat_natCast]; omega)) (by first | omega | (simp (disch := omega) only [um_eq, um_na, um_ni, Int.toNat_natCast]; omega)) (fun hc => absurd hc (by first | omega | decide | (simp (disch := omega) only [um_eq, um_na, um_ni, Int.toNat_natCast]; omega))) (fun hc => ?_)
        refine Rn.ine rfl (X_ald rfl <| X_gr 8 0 hM.ob ⟨rfl, rfl⟩ rfl rfl <| X_i <| X_ild rfl <| X_add <| X_ia hM.w (by first | omega | (simp (disch := omega) only [um_eq, um_na, um_ni, Int.toNat_natCast]; omega)) (by first | omega | (simp (disch := omega) only [um_eq, um_na, um_ni, Int.toNat_natCast]; omega)) rfl <| X_nil) (by first | omega | (simp (disch := omega) only [um_eq, um_na, um_ni, Int.toNat_natCast]; omega)) (fun hc => absurd hc (by first | omega | decide | (simp (disch := omega) only [um_eq, um_na, um_ni, Int.toNat_natCast]; omega))) (fun hc => ?_)
        refine Rn.cal rfl (X_ald rfl <| X_ild rfl <| X_ald rfl <| X_gr 8 0 hM.ob ⟨rfl, rfl⟩ rfl rfl <| X_i <| X_ia hM.w (by first | omega | (simp (disch := omega) only [um_eq, um_na, um_ni, Int.toNat_natCast]; omega)) (by first | omega | (simp (disch := omega) only [um_eq, um_na, um_ni, Int.toNat_natCast]; omega)) rfl <| X_nil) (vs := [_, _, _]) (rest := []) rfl rfl rfl (rcv_v hM.ob (by decide)) (c2) ?_
        refine Rn.cge rfl (X_ist rfl (L' := [_, _, _, _, _]) rfl <| X_ild rfl <| X_ild rfl <| X_nil) (by first | omega | (simp (disch := omega) only [um_eq, um_na, um_ni, Int.toNat_natCast]; omega)) (by first | omega | (simp (disch := omega) only [um_eq, um_na, um_ni, Int.toNat_natCast]; omega)) (fun hc => absurd hc (by first | omega | decide | (simp (disch := omega) only [um_eq, um_na, um_ni, Int.toNat_natCast]; omega))) (fun hc => ?_)
        refine Rn.jto rfl (X_ild rfl <| X_nil) ?_
        refine Rn.cge rfl (X_ist rfl (L' := [_, _, _, _, _]) rfl <| X_ild rfl <| X_ild rfl <| X_nil) (by first | omega | (simp (disch := omega) only [um_eq, um_na, um_ni, Int.toNat_natCast]; omega)) (by first | omega | (simp (disch := omega) only [um_eq, um_na, um_ni, Int.toNat_natCast]; omega)) (fun hc => absurd hc (by first | omega | decide | (simp (disch := omega) only [um_eq, um_na, um_ni, Int.toNat_natCast]; omega))) (fun hc => ?_)
        refine Rn.jto rfl (X_ild rfl <| X_nil) ?_
        refine Rn.fal rfl (X_ist rfl (L' := [_, _, _, _, _]) rfl <| X_nil) ?_
        exact r
      · have hb : bst M D (c + 1) = bst M D c := by
          refine bst_no (fun z => ?_)
          rcases z.2.2 with y | y
          · rw [li.2.2.2 y] at q3
            omega
          · by_cases q4 : bst M D c = -1
            · rw [li.2.2.2 q4] at q3
              omega
            · rw [li.2.2.1 q4] at q3
              exact q3 y
        obtain ⟨N', r, f⟩ := step P (some (vI (M1 4 (c : Int)))) _ _ hP hb (lsame hb)
        refine ⟨N', ?_, f⟩
        refine Rn.cge rfl (X_ild rfl <| X_ald rfl <| X_gr 8 0 hM.ob ⟨rfl, rfl⟩ rfl rfl <| X_i <| X_ia hM.w (by first | omega | (simp (disch := omega) only [um_eq, um_na, um_ni, Int.toNat_natCast]; omega)) (by first | omega | (simp (disch := omega) only [um_eq, um_na, um_ni, Int.toNat_natCast]; omega)) rfl <| X_ald rfl <| X_gr 8 0 hM.ob ⟨rfl, rfl⟩ rfl rfl <| X_i <| X_ia hM.w (by first | omega | (simp (disch := omega) only [um_eq, um_na, um_ni, Int.toNat_natCast]; omega)) (by first | omega | (simp (disch := omega) only [um_eq, um_na, um_ni, Int.toNat_natCast]; omega)) rfl <| X_mul <| X_nil) (by first | omega | (simp (disch := omega) only [um_eq, um_na, um_ni, Int.toNat_natCast]; omega)) (by first | omega | (simp (disch := omega) only [um_eq, um_na, um_ni, Int.toNat_natCast]; omega)) (fun hc => absurd hc (by first | omega | decide | (simp (disch := omega) only [um_eq, um_na, um_ni, Int.toNat_natCast]; omega))) (fun hc => ?_)
        refine Rn.ceq rfl (X_ild rfl <| X_ald rfl <| X_gr 8 0 hM.ob ⟨rfl, rfl⟩ rfl rfl <| X_i <| X_ia hM.w (by first | omega | (simp (disch := omega) only [um_eq, um_na, um_ni, Int.toNat_natCast]; omega)) (by first | omega | (simp (disch := omega) only [um_eq, um_na, um_ni, Int.toNat_natCast]; omega)) rfl <| X_nil) (by first | omega | (simp (disch := omega) only [um_eq, um_na, um_ni, Int.toNat_natCast]; omega)) (by first | omega | (simp (disch := omega) only [um_eq, um_na, um_ni, Int.toNat_natCast]; omega)) (fun hc => absurd hc (by first | omega | decide | (simp (disch := omega) only [um_eq, um_na, um_ni, Int.toNat_natCast]; omega))) (fun hc => ?_)
        refine Rn.ine rfl (X_ald rfl <| X_gr 8 0 hM.ob ⟨rfl, rfl⟩ rfl rfl <| X_i <| X_ild rfl <| X_add <| X_ia hM.w (by first | omega | (simp (disch := omega) only [um_eq, um_na, um_ni, Int.toNat_natCast]; omega)) (by first | omega | (simp (disch := omega) only [um_eq, um_na, um_ni, Int.toNat_natCast]; omega)) rfl <| X_nil) (by first | omega | (simp (disch := omega) only [um_eq, um_na, um_ni, Int.toNat_natCast]; omega)) (fun hc => absurd hc (by first | omega | decide | (simp (disch := omega) only [um_eq, um_na, um_ni, Int.toNat_natCast]; omega))) (fun hc => ?_)
        refine Rn.cal rfl (X_ald rfl <| X_ild rfl <| X_ald rfl <| X_gr 8 0 hM.ob ⟨rfl, rfl⟩ rfl rfl <| X_i <| X_ia hM.w (by first | omega | (simp (disch := omega) only [um_eq, um_na, um_ni, Int.toNat_natCast]; omega)) (by first | omega | (simp (disch := omega) only [um_eq, um_na, um_ni, Int.toNat_natCast]; omega)) rfl <| X_nil) (vs := [_, _, _]) (rest := []) rfl rfl rfl (rcv_v hM.ob (by decide)) (c2) ?_
        refine Rn.cge rfl (X_ist rfl (L' := [_, _, _, _, _]) rfl <| X_ild rfl <| X_ild rfl <| X_nil) (by first | omega | (simp (disch := omega) only [um_eq, um_na, um_ni, Int.toNat_natCast]; omega)) (by first | omega | (simp (disch := omega) only [um_eq, um_na, um_ni, Int.toNat_natCast]; omega)) (fun hc => ?_) (fun hc => absurd hc (by first | omega | decide | (simp (disch := omega) only [um_eq, um_na, um_ni, Int.toNat_natCast]; omega)))
        refine Rn.fal rfl (X_ild rfl <| X_nil) ?_
        refine Rn.cge rfl (X_ist rfl (L' := [_, _, _, _, _]) rfl <| X_ild rfl <| X_ild rfl <| X_nil) (by first | omega | (simp (disch := omega) only [um_eq, um_na, um_ni, Int.toNat_natCast]; omega)) (by first | omega | (simp (disch := omega) only [um_eq, um_na, um_ni, Int.toNat_natCast]; omega)) (fun hc => ?_) (fun hc => absurd hc (by first | omega | decide | (simp (disch := omega) only [um_eq, um_na, um_ni, Int.toNat_natCast]; omega)))
        refine Rn.fal rfl (X_ild rfl <| X_nil) ?_
        refine Rn.fal rfl (X_ist rfl (L' := [_, _, _, _, _]) rfl <| X_nil) ?_
        exact r
  obtain ⟨M2, r2', fr2⟩ := mloop n 0 M1 none (by omega) (fun _ _ => rfl)
  have bi := bst_in (M := M) (D := D) n
  refine ⟨bst M D n, T, M1, M2, by omega, ⟨_, rfl, ?_⟩, ⟨_, rfl, ?_⟩, g.measured (fun a a1 a2 => by rw [fr2 a a2]; exact fr1 a a1)⟩
  · have cb : Cl S 23 [vR (1 + 1)] (T, M) (some (vI (bst M D n)), (T, M1)) := by
      have e22 : M (1 + 1) 2 = (j : Int) := ej
      rw [← e22] at c1
      refine ⟨_, rfl, ?_⟩
      refine Rn.cal rfl (X_ald rfl <| X_ald rfl <| X_gi 1 2 2 hS.fl ⟨rfl, rfl, rfl⟩ (Or.inl rfl) <| X_nil) (vs := [_, _]) (rest := []) rfl rfl rfl (rcv_v hS.fl (by decide)) (c1) ?_
      refine Rn.fal rfl (X_i <| X_ist rfl (L' := [_, _, _]) rfl <| X_i <| X_ist rfl (L' := [_, _, _]) rfl <| X_nil) ?_
      exact loop n 0 (by omega)
    refine Rn.cal rfl (X_ald rfl <| X_gr 7 0 hX.ob ⟨rfl, rfl⟩ rfl rfl <| X_gr 6 0 hX.s1.st ⟨rfl, rfl⟩ rfl rfl <| X_nil) (vs := [_]) (rest := []) rfl rfl rfl (rcv_v hX.s1.fl (by decide)) (cb) ?_
    refine Rn.ri rfl (X_nil) rfl
  · refine Rn.fal rfl (X_i <| X_ist rfl (L' := [_, _, _, _, _]) rfl <| X_i <| X_ist rfl (L' := [_, _, _, _, _]) rfl <| X_i <| X_ist rfl (L' := [_, _, _, _, _]) rfl <| X_nil) ?_
    exact r2'
end Bed
