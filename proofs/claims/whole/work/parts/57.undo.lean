/-! UNDO -/
section Undo
variable {S : List Int} {T : List Sh} {M N : Nat → Int → Int} {K : Nat} {h : Hp}
theorem op_undo (g : Gl T M K) (hK : K ≤ 100) : Op S 79 163 [] T M K := by
  have hX := g.x
  have hM := g.m
  have hS := hX.s1
  have hz := g.sz
  have eu : M 5 3 = M 77 9 := g.rg.u
  have en : M 5 2 = M 77 8 := g.rg.n
  have u8 : 0 ≤ M 5 3 ∧ M 5 3 ≤ 8 ∧ M 5 3 ≤ M 5 2 := g.rg.u8
  have n4 : 0 ≤ M 5 2 ∧ M 5 2 ≤ 30 * (K : Int) := g.rg.n4
  have e43 : M (1 + 4) 3 = M 5 3 := rfl
  have e42 : M (1 + 4) 2 = M 5 2 := rfl
  by_cases h1 : M 5 3 = 0
  · have b9 : um M 59 1 (M 59 1 + 1) 77 9 = 0 := by rw [um_na (by decide)]; omega
    refine Op.bad1 (v := -3) (k := 1) g (by decide) (by decide) (by decide) ⟨_, rfl, ?_⟩ ⟨_, rfl, ?_⟩
    · refine Rn.ine rfl (X_ald rfl <| X_gr 7 0 hX.ob ⟨rfl, rfl⟩ rfl rfl <| X_gr 6 1 hX.s1.st ⟨rfl, rfl⟩ rfl rfl <| X_gi 0 3 3 hX.s1.be ⟨rfl, rfl, rfl⟩ (Or.inl rfl) <| X_nil) (by first | omega | (simp (disch := omega) only [um_eq, um_na, um_ni, Int.toNat_natCast]; omega)) (fun hc => absurd hc (by first | omega | decide | (simp (disch := omega) only [um_eq, um_na, um_ni, Int.toNat_natCast]; omega))) (fun hc => ?_)
      refine Rn.cal rfl (X_ald rfl <| X_nil) (vs := [_]) (rest := []) rfl rfl rfl (rcv_v hX.ob (by decide)) (c_no hX) ?_
      refine Rn.ri rfl (X_nil) rfl
    · refine Rn.ine rfl (X_ald rfl <| X_gr 8 0 hM.ob ⟨rfl, rfl⟩ rfl rfl <| X_i <| X_ia hM.w (by first | omega | (simp (disch := omega) only [um_eq, um_na, um_ni, Int.toNat_natCast]; omega)) (by first | omega | (simp (disch := omega) only [um_eq, um_na, um_ni, Int.toNat_natCast]; omega)) rfl <| X_nil) (by first | omega | (simp (disch := omega) only [um_eq, um_na, um_ni, Int.toNat_natCast]; omega)) (fun hc => absurd hc (by first | omega | decide | (simp (disch := omega) only [um_eq, um_na, um_ni, Int.toNat_natCast]; omega))) (fun hc => ?_)
      refine Rn.cal rfl (X_ald rfl <| X_i <| X_nil) (vs := [_, _]) (rest := []) rfl rfl rfl (rcv_v hM.ob (by decide)) (c_met hM (Or.inr (Or.inl rfl))) ?_
      refine Rn.ri rfl (X_nil) rfl
  obtain ⟨i, hi⟩ : ∃ i : Nat, M 5 3 = (i : Int) + 1 := ⟨(M 5 3 - 1).toNat, by omega⟩
  have row := g.rg.p i (show (i : Int) < M 5 3 by omega)
  have ea : rowA M 1 i = 1 + 7 + ((M 5 2 - 1) % 8).toNat := by
    show 1 + 7 + ((M 5 2 - M 5 3 + (i : Int)) % 8).toNat = _
    rw [show M 5 2 - M 5 3 + (i : Int) = M 5 2 - 1 by omega]
  obtain ⟨w1, w2, w3, w4⟩ := row
  have w3 : M 77 (0 + 107 + 10 * (i : Int) + 8) = M 5 2 - M 5 3 + (i : Int) := w3
  generalize hA : rowA M 1 i = A at *
  obtain ⟨M1, c1, ⟨b1, b2, b3⟩, bt, bf⟩ := c_forget (S := S) (M := M) (b := 1) (a := A) hS (by omega) ea w2
  have m77 : M1 77 = M 77 := bf 77 (by omega) (fun j hj => by omega)
  obtain ⟨M2, c2, q9, q8, qs, qk, qf⟩ := c_mundo (S := S) (M := M1) (f := 0 + 107 + 10 * (i : Int)) hM (by rw [m77]; omega) (by rw [m77]; omega) (by rw [m77, ← w1]; exact w2)
  rw [m77] at q9 q8 qs qk
  rw [← w1] at qs qk
  have e : ∀ x, x ≠ 5 → (∀ j : Nat, (j : Int) < M A 0 → x ≠ 1 + 16 + 2 * j) → x ≠ 77 → M2 x = M x := fun x x1 x2 x3 => by rw [qf x x3]; exact bf x x1 x2
  have wk : ∀ k, k ≠ 8 → k ≠ 9 → (k < 83 ∨ 91 ≤ k) → M2 77 k = M 77 k := fun k k1 k2 k3 => qk k k1 k2 (fun s hs => by omega)
  have eo : ∀ x, x ≠ 5 → (x < 17 ∨ 24 ≤ x) → x ≠ 77 → M2 x = M x := fun x x1 x2 x3 => e x x1 (fun j hj => by omega) x3
  have e76 := eo 76 (by decide) (by omega) (by decide)
  refine ⟨1, T, M1, M2, by decide, ⟨_, rfl, ?_⟩, c2, g.upd (Kept.of (fun a ha => eo a (by omega) (by omega) (by omega)) (by rw [e76]) (by rw [e76]) (by rw [e76]) (fun k k0 k1 => wk k (by omega) (by omega) (by omega))) ?_ (g.re.cg (eo _ (by decide) (by omega) (by decide)) (eo _ (by decide) (by omega) (by decide)) (by omega)) (by omega)⟩
  · refine Rn.ine rfl (X_ald rfl <| X_gr 7 0 hX.ob ⟨rfl, rfl⟩ rfl rfl <| X_gr 6 1 hX.s1.st ⟨rfl, rfl⟩ rfl rfl <| X_gi 0 3 3 hX.s1.be ⟨rfl, rfl, rfl⟩ (Or.inl rfl) <| X_nil) (by first | omega | (simp (disch := omega) only [um_eq, um_na, um_ni, Int.toNat_natCast]; omega)) (fun hc => ?_) (fun hc => absurd hc (by first | omega | decide | (simp (disch := omega) only [um_eq, um_na, um_ni, Int.toNat_natCast]; omega)))
    refine Rn.cal rfl (X_ald rfl <| X_gr 7 0 hX.ob ⟨rfl, rfl⟩ rfl rfl <| X_gr 6 1 hX.s1.st ⟨rfl, rfl⟩ rfl rfl <| X_nil) (vs := [_]) (rest := []) rfl rfl rfl (rcv_v hX.s1.be (by decide)) (c1) ?_
    refine Rn.ri rfl (X_i <| X_nil) rfl
  · have e5 : M2 (1 + 4) = M1 (1 + 4) := qf _ (by decide)
    have ft := g.rg.f
    have hrow : ∀ j : Nat, M2 (1 + 7 + j) = M (1 + 7 + j) ∨ 8 ≤ j := fun j => by
      by_cases hj : j < 8
      · exact Or.inl (eo _ (by omega) (by omega) (by omega))
      · exact Or.inr (by omega)
    unfold Rg
    rw [e5, b1, b2, b3]
    refine ⟨fun k k0 k6 => ?_, fun c c0 c1 => ?_, ?_, ?_, ?_, ?_, fun j hj k k0 k8 => ?_, fun j j0 j1 => ?_, fun j hj => ?_, ?_, g.rg.z4, by omega, by omega, ?_, fun j hj => ?_⟩
    · rw [eo (1 + 1) (by decide) (by omega) (by decide), wk _ (by omega) (by omega) (by omega)]
      exact g.rg.f k k0 k6
    · rw [eo (1 + 2) (by decide) (by omega) (by decide), wk _ (by omega) (by omega) (by omega)]
      exact g.rg.t c c0 c1
    · rw [wk _ (by omega) (by omega) (by omega)]
      exact g.rg.z
    · rw [eo (1 + 23) (by decide) (by omega) (by decide), wk _ (by omega) (by omega) (by omega)]
      exact g.rg.m
    · show M 5 2 - 1 = M2 77 8
      rw [q8, w3]
      omega
    · show M 5 3 - 1 = M2 77 9
      rw [q9]
      omega
    · have es := g.rg.s j hj k k0 k8
      by_cases hja : (j : Int) < M A 0
      · obtain ⟨t1, t2, t3⟩ := bt j hja
        obtain ⟨s1, s2⟩ := qs j hja
        obtain ⟨⟨v1, v2⟩, -⟩ := w4 j hja
        rw [qf _ (by omega)]
        rcases (show k = 6 ∨ k = 7 ∨ (k ≠ 6 ∧ k ≠ 7) by omega) with rfl | rfl | hk
        · rw [t2, v1, show (0 : Int) + 59 + 4 * 6 + (j : Int) = 83 + j by omega, s1]
        · rw [t3, v2, show (0 : Int) + 59 + 4 * 7 + (j : Int) = 87 + j by omega, s2]
        · rw [t1 k hk.1 hk.2, es]
          have z4 := hz.2.2
          have hj' : (j : Int) < M 5 1 := hj
          exact (wk _ (by omega) (by omega) (by omega)).symm
      · have hj' : (j : Int) < M 5 1 := hj
        rw [e _ (by omega) (fun x hx => by omega) (by omega), es]
        exact (qk _ (by omega) (by omega) (fun s hs => by omega)).symm
    · rw [eo (1 + 23) (by decide) (by omega) (by decide)] at j1
      have m8 := g.rg.m8
      rw [eo (1 + 24) (by decide) (by omega) (by decide), eo (1 + 25) (by decide) (by omega) (by decide), wk _ (by omega) (by omega) (by omega), wk (0 + 99 + j) (by omega) (by omega) (by omega)]
      exact g.rg.no j j0 j1
    · have e2 := g.rg.p j (show (j : Int) < M 5 3 by omega)
      have er : rowA M2 1 j = rowA M 1 j := by
        unfold rowA
        rw [e5, b2, b3, show M (1 + 4) 2 - 1 - (M (1 + 4) 3 - 1) + (j : Int) = M (1 + 4) 2 - M (1 + 4) 3 + j by omega]
      have hrw : M2 (rowA M 1 j) = M (rowA M 1 j) := by
        unfold rowA
        have hk : ((M (1 + 4) 2 - M (1 + 4) 3 + (j : Int)) % 8).toNat < 8 := by omega
        exact eo _ (by omega) (by omega) (by omega)
      rw [er]
      unfold RowOk at e2 ⊢
      rw [hrw, e5, b2, b3, wk (0 + 107 + 10 * (j : Int) + 9) (by omega) (by omega) (by omega), wk (0 + 107 + 10 * (j : Int) + 8) (by omega) (by omega) (by omega)]
      obtain ⟨r1, r2, r3, r4⟩ := e2
      refine ⟨r1, r2, by omega, fun s hs => ?_⟩
      rw [wk (0 + 107 + 10 * (j : Int) + s) (by omega) (by omega) (by omega), wk (0 + 107 + 10 * (j : Int) + 4 + s) (by omega) (by omega) (by omega)]
      obtain ⟨p1, p2, p3⟩ := r4 s hs
      exact ⟨p1, by omega, by omega⟩
    · have e2 := eo (1 + 1) (by decide) (by omega) (by decide)
      have e3 := eo (1 + 2) (by decide) (by omega) (by decide)
      exact FlNo_pw (C := M) (o := 1) (by rw [e2]) (by rw [e2]) (by rw [e2]) (by rw [e2]) (by rw [e2]) (by rw [e2]) (by rw [e2]) (fun _ _ _ => by rw [e3]) g.rg.fl
    · rw [eo (1 + 23) (by decide) (by omega) (by decide)]
      exact g.rg.m8
    · have hj' : (j : Int) < M 5 1 := hj
      have tb := g.rg.tr j hj
      by_cases hja : (j : Int) < M A 0
      · obtain ⟨t1, t2, t3⟩ := bt j hja
        obtain ⟨-, v3, v4⟩ := w4 j hja
        obtain ⟨⟨h0, h1', h2, h3, h4, h5⟩, h6, h7⟩ := tb
        unfold TrB
        rw [qf _ (by omega), t2, t3, t1 0 (by decide) (by decide), t1 1 (by decide) (by decide), t1 2 (by decide) (by decide), t1 3 (by decide) (by decide), t1 4 (by decide) (by decide), t1 5 (by decide) (by decide)]
        exact ⟨⟨h0, h1', h2, h3, h4, h5⟩, by omega, by omega⟩
      · exact TrB_pw (by omega) (fun k _ _ => by rw [e _ (by omega) (fun x hx => by omega) (by omega)]) tb
end Undo
