/-! RUNS WITH SOME FUEL: rules for blocks and calls -/
abbrev I32 (z : Int) : Prop := -2147483648 ≤ z ∧ z < 2147483648
abbrev I64 (z : Int) : Prop := -9223372036854775808 ≤ z ∧ z < 9223372036854775808
theorem n32_of {z : Int} (h : I32 z) : n32 z = z := n32_id h.1 h.2
theorem n64_of {z : Int} (h : I64 z) : n64 z = z := n64_id h.1 h.2
theorem run_mono {S : List Int} : ∀ (f m pc : Nat) (σ : St) (r : Option AV × Hp), run S f m pc σ = some r → run S (f + 1) m pc σ = some r
  | 0, _, _, _, _, h => by cases h
  | f + 1, m, pc, σ, r, h => by
    unfold run at h ⊢
    cases hb : blk m pc with
    | none => rw [hb] at h; cases h
    | some x =>
      obtain ⟨is, t⟩ := x
      rw [hb] at h
      simp only at h ⊢
      cases h1 : exL S is σ with
      | none => rw [h1] at h; cases h
      | some σ1 =>
        rw [h1] at h
        simp only [Option.bind_some] at h ⊢
        by_cases h6 : t.1 = 6
        · rw [if_pos h6] at h ⊢
          exact h
        · rw [if_neg h6] at h ⊢
          by_cases h7 : t.1 = 7
          · rw [if_pos h7] at h ⊢
            by_cases hg : t.2.2.2.1.toNat ≤ σ1.1.length ∧ σ1.1.length ≤ t.2.2.2.1.toNat + 4 ∧ rcv (t.2.2.2.2.getD 0 0) (t.2.2.2.2.getD 1 0) (σ1.1.take t.2.2.2.1.toNat).reverse σ1.2.2.1 = true
            · rw [if_pos hg] at h ⊢
              cases h2 : ini (mB t.2.1).1 (σ1.1.take t.2.2.2.1.toNat).reverse with
              | none => rw [h2] at h; cases h
              | some L' =>
                rw [h2] at h
                simp only [Option.bind_some] at h ⊢
                cases h3 : run S f t.2.1 0 ([], L', σ1.2.2) with
                | none => rw [h3] at h; cases h
                | some r1 =>
                  rw [h3] at h
                  simp only [Option.bind_some] at h
                  rw [run_mono f _ _ _ _ h3]
                  simp only [Option.bind_some]
                  exact run_mono f _ _ _ _ h
            · rw [if_neg hg] at h
              cases h
          · rw [if_neg h7] at h ⊢
            cases h2 : jmp t σ1 with
            | none => rw [h2] at h; cases h
            | some x =>
              rw [h2] at h
              simp only [Option.bind_some] at h ⊢
              exact run_mono f _ _ _ _ h
theorem run_le {S : List Int} {f g m pc : Nat} {σ : St} {r : Option AV × Hp} (h : f ≤ g) (k : run S f m pc σ = some r) : run S g m pc σ = some r := by
  induction h with
  | refl => exact k
  | step _ ih => exact run_mono _ _ _ _ _ ih
def Rn (S : List Int) (m pc : Nat) (σ : St) (r : Option AV × Hp) : Prop := ∃ f, run S f m pc σ = some r
def Cl (S : List Int) (m : Nat) (vs : List AV) (h : Hp) (r : Option AV × Hp) : Prop := ∃ L', ini (mB m).1 vs = some L' ∧ Rn S m 0 ([], L', h) r
theorem Rn.go {S : List Int} {m pc q : Nat} {is : List In} {t : Tn} {σ σ1 σ2 : St} {r : Option AV × Hp} (hb : blk m pc = some (is, t)) (hx : exL S is σ = some σ1) (h6 : ¬ t.1 = 6) (h7 : ¬ t.1 = 7) (hj : jmp t σ1 = some (q, σ2)) (k : Rn S m q σ2 r) : Rn S m pc σ r := by
  obtain ⟨f, hf⟩ := k
  refine ⟨f + 1, ?_⟩
  unfold run
  rw [hb]
  simp only
  rw [hx]
  simp only [Option.bind_some]
  rw [if_neg h6, if_neg h7, hj]
  exact hf
theorem Rn.ret {S : List Int} {m pc : Nat} {is : List In} {t : Tn} {σ σ1 : St} {r : Option AV × Hp} (hb : blk m pc = some (is, t)) (hx : exL S is σ = some σ1) (h6 : t.1 = 6) (hr : rtv (mB m).2.1 σ1 = some r) : Rn S m pc σ r := by
  refine ⟨1, ?_⟩
  unfold run
  rw [hb]
  simp only
  rw [hx]
  simp only [Option.bind_some]
  rw [if_pos h6, hr]
theorem Rn.cal {S : List Int} {m pc m' q n k rc : Nat} {is : List In} {σ : St} {st : List AV} {L : List (Option AV)} {h h2 : Hp} {rv : Option AV} {r : Option AV × Hp} {vs rest : List AV} (hb : blk m pc = some (is, (7, m', q, (n : Int), [k, rc]))) (hx : exL S is σ = some (st, L, h)) (hv : (st.take n).reverse = vs) (hd : st.drop n = rest) (hl : (Nat.ble n st.length && Nat.ble st.length (n + 4)) = true) (hc : rcv k rc vs h.1 = true) (c : Cl S m' vs h (rv, h2)) (kk : Rn S m q (rv.toList ++ rest, L, h2) r) : Rn S m pc σ r := by
  obtain ⟨L', hi, f1, hf1⟩ := c
  obtain ⟨f2, hf2⟩ := kk
  refine ⟨f1 + f2 + 1, ?_⟩
  unfold run
  rw [hb]
  simp only
  rw [hx]
  simp only [Option.bind_some]
  rw [if_neg (by decide), if_pos trivial]
  have en : ((n : Int)).toNat = n := Int.toNat_natCast n
  rw [Bool.and_eq_true] at hl
  have l1 := Nat.le_of_ble_eq_true hl.1
  have l2 := Nat.le_of_ble_eq_true hl.2
  rw [en, if_pos ⟨l1, l2, by rw [hv]; exact hc⟩, hv, hi]
  simp only [Option.bind_some]
  rw [run_le (Nat.le_add_right f1 f2) hf1]
  simp only [Option.bind_some]
  rw [hd]
  exact run_le (Nat.le_add_left f2 f1) hf2
theorem jmp_2 (q n : Nat) (w : Int) (l : List Nat) (σ : St) : jmp (2, q, n, w, l) σ = j_if w.toNat q n σ := by unfold jmp; rfl
theorem jmp_3 (q n : Nat) (w : Int) (l : List Nat) (σ : St) : jmp (3, q, n, w, l) σ = j_cmp w.toNat q n σ := by unfold jmp; rfl
theorem jmp_5 (q n : Nat) (w : Int) (l : List Nat) (σ : St) : jmp (5, q, n, w, l) σ = j_sw w l q σ := by unfold jmp; rfl
theorem jmp_8 (q n : Nat) (w : Int) (l : List Nat) (σ : St) : jmp (8, q, n, w, l) σ = j_sw w l q σ := by unfold jmp; rfl
section Rules
variable {S : List Int} {m pc q n : Nat} {is : List In} {σ : St} {st : List AV} {L : List (Option AV)} {h : Hp} {r : Option AV × Hp} {x y z : Int} {l : List Nat} {b : Nat} {w : Int}
theorem Rn.fal (hb : blk m pc = some (is, (0, q, b, w, l))) (hx : exL S is σ = some (st, L, h)) (k : Rn S m q (st, L, h) r) : Rn S m pc σ r := Rn.go hb hx (fun e => by cases e) (fun e => by cases e) rfl k
theorem Rn.jto (hb : blk m pc = some (is, (1, q, b, w, l))) (hx : exL S is σ = some (st, L, h)) (k : Rn S m q (st, L, h) r) : Rn S m pc σ r := Rn.go hb hx (fun e => by cases e) (fun e => by cases e) rfl k
theorem Rn.ri (hb : blk m pc = some (is, (6, q, b, w, l))) (hx : exL S is σ = some ([vI z], L, h)) (hk : (mB m).2.1 = 1) : Rn S m pc σ (some (vI z), h) := Rn.ret hb hx rfl (by rw [hk]; rfl)
theorem Rn.rz (hb : blk m pc = some (is, (6, q, b, w, l))) (hx : exL S is σ = some ([vI z], L, h)) (hk : (mB m).2.1 = 3) (hz : z = 0 ∨ z = 1) : Rn S m pc σ (some (vI z), h) := Rn.ret hb hx rfl (by rw [hk]; exact if_pos (decide_eq_true hz))
theorem Rn.rl (hb : blk m pc = some (is, (6, q, b, w, l))) (hx : exL S is σ = some ([vL z], L, h)) (hk : (mB m).2.1 = 2) : Rn S m pc σ (some (vL z), h) := Rn.ret hb hx rfl (by rw [hk]; rfl)
theorem Rn.rv (hb : blk m pc = some (is, (6, q, b, w, l))) (hx : exL S is σ = some ([], L, h)) (hk : (mB m).2.1 = 0) : Rn S m pc σ (none, h) := Rn.ret hb hx rfl (by rw [hk]; rfl)
theorem Rn.cif {op : Nat} (hb : blk m pc = some (is, (2, q, n, (op : Int), l))) (hx : exL S is σ = some (vI z :: st, L, h)) (ht : c1 op (n32 z) = true → Rn S m q (st, L, h) r) (hf : c1 op (n32 z) = false → Rn S m n (st, L, h) r) : Rn S m pc σ r := by
  cases hc : c1 op (n32 z) with
  | true => exact Rn.go hb hx (fun e => by cases e) (fun e => by cases e) (by rw [jmp_2, Int.toNat_natCast]; unfold j_if; simp only; rw [hc]; rfl) (ht hc)
  | false => exact Rn.go hb hx (fun e => by cases e) (fun e => by cases e) (by rw [jmp_2, Int.toNat_natCast]; unfold j_if; simp only; rw [hc]; rfl) (hf hc)
theorem Rn.ccm {op : Nat} (hb : blk m pc = some (is, (3, q, n, (op : Int), l))) (hx : exL S is σ = some (vI y :: vI x :: st, L, h)) (ht : c2 op (n32 x) (n32 y) = true → Rn S m q (st, L, h) r) (hf : c2 op (n32 x) (n32 y) = false → Rn S m n (st, L, h) r) : Rn S m pc σ r := by
  cases hc : c2 op (n32 x) (n32 y) with
  | true => exact Rn.go hb hx (fun e => by cases e) (fun e => by cases e) (by rw [jmp_3, Int.toNat_natCast]; unfold j_cmp; simp only; rw [hc]; rfl) (ht hc)
  | false => exact Rn.go hb hx (fun e => by cases e) (fun e => by cases e) (by rw [jmp_3, Int.toNat_natCast]; unfold j_cmp; simp only; rw [hc]; rfl) (hf hc)
theorem Rn.ieq (hb : blk m pc = some (is, (2, q, n, 0, l))) (hx : exL S is σ = some (vI z :: st, L, h)) (iz : I32 z) (ht : z = 0 → Rn S m q (st, L, h) r) (hf : ¬ z = 0 → Rn S m n (st, L, h) r) : Rn S m pc σ r :=
  Rn.cif (op := 0) hb hx (fun e => ht (by rw [n32_of iz] at e; exact of_decide_eq_true e)) (fun e => hf (by rw [n32_of iz] at e; exact of_decide_eq_false e))
theorem Rn.ine (hb : blk m pc = some (is, (2, q, n, 1, l))) (hx : exL S is σ = some (vI z :: st, L, h)) (iz : I32 z) (ht : ¬ z = 0 → Rn S m q (st, L, h) r) (hf : z = 0 → Rn S m n (st, L, h) r) : Rn S m pc σ r :=
  Rn.cif (op := 1) hb hx (fun e => ht (by rw [n32_of iz] at e; exact of_decide_eq_true e)) (fun e => hf (by rw [n32_of iz] at e; exact Decidable.of_not_not (of_decide_eq_false e)))
theorem Rn.ilt (hb : blk m pc = some (is, (2, q, n, 2, l))) (hx : exL S is σ = some (vI z :: st, L, h)) (iz : I32 z) (ht : z < 0 → Rn S m q (st, L, h) r) (hf : 0 ≤ z → Rn S m n (st, L, h) r) : Rn S m pc σ r :=
  Rn.cif (op := 2) hb hx (fun e => ht (by rw [n32_of iz] at e; exact of_decide_eq_true e)) (fun e => hf (by rw [n32_of iz] at e; exact Int.not_lt.mp (of_decide_eq_false e)))
theorem Rn.ige (hb : blk m pc = some (is, (2, q, n, 3, l))) (hx : exL S is σ = some (vI z :: st, L, h)) (iz : I32 z) (ht : 0 ≤ z → Rn S m q (st, L, h) r) (hf : z < 0 → Rn S m n (st, L, h) r) : Rn S m pc σ r :=
  Rn.cif (op := 3) hb hx (fun e => ht (by rw [n32_of iz] at e; exact of_decide_eq_true e)) (fun e => hf (by rw [n32_of iz] at e; exact Int.not_le.mp (of_decide_eq_false e)))
theorem Rn.igt (hb : blk m pc = some (is, (2, q, n, 4, l))) (hx : exL S is σ = some (vI z :: st, L, h)) (iz : I32 z) (ht : 0 < z → Rn S m q (st, L, h) r) (hf : z ≤ 0 → Rn S m n (st, L, h) r) : Rn S m pc σ r :=
  Rn.cif (op := 4) hb hx (fun e => ht (by rw [n32_of iz] at e; exact of_decide_eq_true e)) (fun e => hf (by rw [n32_of iz] at e; exact Int.not_lt.mp (of_decide_eq_false e)))
theorem Rn.ile (hb : blk m pc = some (is, (2, q, n, 5, l))) (hx : exL S is σ = some (vI z :: st, L, h)) (iz : I32 z) (ht : z ≤ 0 → Rn S m q (st, L, h) r) (hf : 0 < z → Rn S m n (st, L, h) r) : Rn S m pc σ r :=
  Rn.cif (op := 5) hb hx (fun e => ht (by rw [n32_of iz] at e; exact of_decide_eq_true e)) (fun e => hf (by rw [n32_of iz] at e; exact Int.not_le.mp (of_decide_eq_false e)))
theorem Rn.ceq (hb : blk m pc = some (is, (3, q, n, 0, l))) (hx : exL S is σ = some (vI y :: vI x :: st, L, h)) (ix : I32 x) (iy : I32 y) (ht : x = y → Rn S m q (st, L, h) r) (hf : ¬ x = y → Rn S m n (st, L, h) r) : Rn S m pc σ r :=
  Rn.ccm (op := 0) hb hx (fun e => ht (by rw [n32_of ix, n32_of iy] at e; exact of_decide_eq_true e)) (fun e => hf (by rw [n32_of ix, n32_of iy] at e; exact of_decide_eq_false e))
theorem Rn.cne (hb : blk m pc = some (is, (3, q, n, 1, l))) (hx : exL S is σ = some (vI y :: vI x :: st, L, h)) (ix : I32 x) (iy : I32 y) (ht : ¬ x = y → Rn S m q (st, L, h) r) (hf : x = y → Rn S m n (st, L, h) r) : Rn S m pc σ r :=
  Rn.ccm (op := 1) hb hx (fun e => ht (by rw [n32_of ix, n32_of iy] at e; exact of_decide_eq_true e)) (fun e => hf (by rw [n32_of ix, n32_of iy] at e; exact Decidable.of_not_not (of_decide_eq_false e)))
theorem Rn.clt (hb : blk m pc = some (is, (3, q, n, 2, l))) (hx : exL S is σ = some (vI y :: vI x :: st, L, h)) (ix : I32 x) (iy : I32 y) (ht : x < y → Rn S m q (st, L, h) r) (hf : y ≤ x → Rn S m n (st, L, h) r) : Rn S m pc σ r :=
  Rn.ccm (op := 2) hb hx (fun e => ht (by rw [n32_of ix, n32_of iy] at e; exact of_decide_eq_true e)) (fun e => hf (by rw [n32_of ix, n32_of iy] at e; exact Int.not_lt.mp (of_decide_eq_false e)))
theorem Rn.cge (hb : blk m pc = some (is, (3, q, n, 3, l))) (hx : exL S is σ = some (vI y :: vI x :: st, L, h)) (ix : I32 x) (iy : I32 y) (ht : y ≤ x → Rn S m q (st, L, h) r) (hf : x < y → Rn S m n (st, L, h) r) : Rn S m pc σ r :=
  Rn.ccm (op := 3) hb hx (fun e => ht (by rw [n32_of ix, n32_of iy] at e; exact of_decide_eq_true e)) (fun e => hf (by rw [n32_of ix, n32_of iy] at e; exact Int.not_le.mp (of_decide_eq_false e)))
theorem Rn.cgt (hb : blk m pc = some (is, (3, q, n, 4, l))) (hx : exL S is σ = some (vI y :: vI x :: st, L, h)) (ix : I32 x) (iy : I32 y) (ht : y < x → Rn S m q (st, L, h) r) (hf : x ≤ y → Rn S m n (st, L, h) r) : Rn S m pc σ r :=
  Rn.ccm (op := 4) hb hx (fun e => ht (by rw [n32_of ix, n32_of iy] at e; exact of_decide_eq_true e)) (fun e => hf (by rw [n32_of ix, n32_of iy] at e; exact Int.not_lt.mp (of_decide_eq_false e)))
theorem Rn.cle (hb : blk m pc = some (is, (3, q, n, 5, l))) (hx : exL S is σ = some (vI y :: vI x :: st, L, h)) (ix : I32 x) (iy : I32 y) (ht : x ≤ y → Rn S m q (st, L, h) r) (hf : y < x → Rn S m n (st, L, h) r) : Rn S m pc σ r :=
  Rn.ccm (op := 5) hb hx (fun e => ht (by rw [n32_of ix, n32_of iy] at e; exact of_decide_eq_true e)) (fun e => hf (by rw [n32_of ix, n32_of iy] at e; exact Int.not_le.mp (of_decide_eq_false e)))
/-- how two longs compare -/
def lc (x y : Int) : Int := if y < x then 1 else if x = y then 0 else -1
theorem n32_lc (x y : Int) : n32 (lc x y) = lc x y := by
  unfold lc
  split
  · decide
  · split <;> decide
theorem Rn.leq (hb : blk m pc = some (is, (2, q, n, 0, l))) (hx : exL S is σ = some (vI (lc x y) :: st, L, h)) (ht : x = y → Rn S m q (st, L, h) r) (hf : ¬ x = y → Rn S m n (st, L, h) r) : Rn S m pc σ r :=
  Rn.cif (op := 0) hb hx (fun e => ht (by rw [n32_lc] at e; have := of_decide_eq_true e; unfold lc at this; split at this <;> first | omega | (split at this <;> omega))) (fun e => hf (by rw [n32_lc] at e; have := of_decide_eq_false e; unfold lc at this; split at this <;> first | omega | (split at this <;> omega)))
theorem Rn.lne (hb : blk m pc = some (is, (2, q, n, 1, l))) (hx : exL S is σ = some (vI (lc x y) :: st, L, h)) (ht : ¬ x = y → Rn S m q (st, L, h) r) (hf : x = y → Rn S m n (st, L, h) r) : Rn S m pc σ r :=
  Rn.cif (op := 1) hb hx (fun e => ht (by rw [n32_lc] at e; have := of_decide_eq_true e; unfold lc at this; split at this <;> first | omega | (split at this <;> omega))) (fun e => hf (by rw [n32_lc] at e; have := of_decide_eq_false e; unfold lc at this; split at this <;> first | omega | (split at this <;> omega)))
theorem Rn.llt (hb : blk m pc = some (is, (2, q, n, 2, l))) (hx : exL S is σ = some (vI (lc x y) :: st, L, h)) (ht : x < y → Rn S m q (st, L, h) r) (hf : y ≤ x → Rn S m n (st, L, h) r) : Rn S m pc σ r :=
  Rn.cif (op := 2) hb hx (fun e => ht (by rw [n32_lc] at e; have := of_decide_eq_true e; unfold lc at this; split at this <;> first | omega | (split at this <;> omega))) (fun e => hf (by rw [n32_lc] at e; have := of_decide_eq_false e; unfold lc at this; split at this <;> first | omega | (split at this <;> omega)))
theorem Rn.lgt (hb : blk m pc = some (is, (2, q, n, 4, l))) (hx : exL S is σ = some (vI (lc x y) :: st, L, h)) (ht : y < x → Rn S m q (st, L, h) r) (hf : x ≤ y → Rn S m n (st, L, h) r) : Rn S m pc σ r :=
  Rn.cif (op := 4) hb hx (fun e => ht (by rw [n32_lc] at e; have := of_decide_eq_true e; unfold lc at this; split at this <;> first | omega | (split at this <;> omega))) (fun e => hf (by rw [n32_lc] at e; have := of_decide_eq_false e; unfold lc at this; split at this <;> first | omega | (split at this <;> omega)))
theorem Rn.lle (hb : blk m pc = some (is, (2, q, n, 5, l))) (hx : exL S is σ = some (vI (lc x y) :: st, L, h)) (ht : x ≤ y → Rn S m q (st, L, h) r) (hf : y < x → Rn S m n (st, L, h) r) : Rn S m pc σ r :=
  Rn.cif (op := 5) hb hx (fun e => ht (by rw [n32_lc] at e; have := of_decide_eq_true e; unfold lc at this; split at this <;> first | omega | (split at this <;> omega))) (fun e => hf (by rw [n32_lc] at e; have := of_decide_eq_false e; unfold lc at this; split at this <;> first | omega | (split at this <;> omega)))
theorem Rn.nul {k : Nat} (hb : blk m pc = some (is, (4, q, n, w, l))) (hx : exL S is σ = some (vR k :: st, L, h)) (k : Rn S m q (st, L, h) r) : Rn S m pc σ r := Rn.go hb hx (fun e => by cases e) (fun e => by cases e) rfl k
theorem Rn.nun (hb : blk m pc = some (is, (4, q, n, w, l))) (hx : exL S is σ = some (vN :: st, L, h)) (k : Rn S m n (st, L, h) r) : Rn S m pc σ r := Rn.go hb hx (fun e => by cases e) (fun e => by cases e) rfl k
theorem Rn.swi {q' : Nat} (hb : blk m pc = some (is, (5, q, n, w, l))) (hx : exL S is σ = some (vI z :: st, L, h)) (iz : I32 z) (hq : (if w ≤ z then l.getD (z - w).toNat q else q) = q') (k : Rn S m q' (st, L, h) r) : Rn S m pc σ r := Rn.go hb hx (fun e => by cases e) (fun e => by cases e) (by rw [jmp_5]; unfold j_sw; simp only; rw [n32_of iz, hq]) k
theorem Rn.swl {q' : Nat} (hb : blk m pc = some (is, (8, q, n, w, l))) (hx : exL S is σ = some (vI z :: st, L, h)) (iz : I32 z) (hq : (if w ≤ z then l.getD (z - w).toNat q else q) = q') (k : Rn S m q' (st, L, h) r) : Rn S m pc σ r := Rn.go hb hx (fun e => by cases e) (fun e => by cases e) (by rw [jmp_8]; unfold j_sw; simp only; rw [n32_of iz, hq]) k
end Rules
