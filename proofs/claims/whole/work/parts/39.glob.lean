/-! ALL THAT THE CLASS AND THE MODEL HAVE IN COMMON -/
section Glob
variable {S : List Int} {T : List Sh} {M N : Nat → Int → Int} {K : Nat} {h : Hp}
def TxOk (M : Nat → Int → Int) : Prop := M 56 0 = M 76 3 ∧ (0 ≤ M 56 0 ∧ M 56 0 ≤ 150) ∧ ∀ i, 0 ≤ i → i < M 56 0 → M 57 i = M 79 i ∧ 0 ≤ M 57 i ∧ M 57 i ≤ 127
def ReOk (M : Nat → Int → Int) (K : Nat) : Prop := ∀ k, 0 ≤ k → k < 3 → M 59 k = M 80 k ∧ 0 ≤ M 59 k ∧ M 59 k ≤ (K : Int)
def FrOk (M : Nat → Int → Int) : Prop := (M 0 7 = M 76 5 ∧ M 0 8 = M 76 6) ∧ I64 (M 0 7) ∧ I64 (M 0 8)
def ImOk (T : List Sh) (M : Nat → Int → Int) (K : Nat) : Prop := ∃ ri : Nat → Option Nat, T[55]? = some (13, 2, ri) ∧ (∀ i b, i < 2 → ri i = some b → (b = 88 ∨ b = 115) ∧ isSt T b ∧ M 78 (i : Int) = 1 ∧ Rg M b (M 77) (187 * (1 + (i : Int))) K) ∧ (∀ i, i < 2 → ri i = none → M 78 (i : Int) = 0) ∧ (∀ b, ri 0 = some b → ri 1 = some b → False) ∧ ((ri 0 = none ∧ ri 1 = none ∧ T.length = 88) ∨ (ri 0 = none ∧ ri 1 = some 88 ∧ T.length = 115) ∨ (ri 0 = some 88 ∧ ri 1 = none ∧ T.length = 115) ∨ ((ri 0 = some 88 ∧ ri 1 = some 115 ∨ ri 0 = some 115 ∧ ri 1 = some 88) ∧ T.length = 142))
def Gl (T : List Sh) (M : Nat → Int → Int) (K : Nat) : Prop := isX T ∧ isM T ∧ Rg M 1 (M 77) 0 K ∧ TxOk M ∧ ReOk M K ∧ FrOk M ∧ ImOk T M K
theorem Gl.x (g : Gl T M K) : isX T := g.1
theorem Gl.m (g : Gl T M K) : isM T := g.2.1
theorem Gl.rg (g : Gl T M K) : Rg M 1 (M 77) 0 K := g.2.2.1
theorem Gl.tx (g : Gl T M K) : TxOk M := g.2.2.2.1
theorem Gl.re (g : Gl T M K) : ReOk M K := g.2.2.2.2.1
theorem Gl.fr (g : Gl T M K) : FrOk M := g.2.2.2.2.2.1
theorem Gl.im (g : Gl T M K) : ImOk T M K := g.2.2.2.2.2.2
theorem ImOk.cg {K' : Nat} (h : ImOk T M K) (h78 : N 78 = M 78) (h77 : ∀ k, 187 ≤ k → k < 561 → N 77 k = M 77 k) (h88 : ∀ a, 88 ≤ a → N a = M a) (hK : K ≤ K') : ImOk T N K' := by
  obtain ⟨ri, e, i1, i2, i3, i4⟩ := h
  refine ⟨ri, e, fun i b hi hb => ?_, fun i hi hb => by rw [h78]; exact i2 i hi hb, i3, i4⟩
  obtain ⟨j1, j2, j3, j4⟩ := i1 i b hi hb
  refine ⟨j1, j2, by rw [h78]; exact j3, ?_⟩
  have j5 := j4.cg (C' := N) (fun a a1 a2 _ => h88 a (by omega)) hK
  exact j5.words (fun k k0 k1 => h77 _ (by omega) (by omega))
/-- what a call leaves as it was -/
def Kept (M N : Nat → Int → Int) : Prop := (N 56 0 = M 56 0 ∧ N 57 = M 57 ∧ N 76 3 = M 76 3 ∧ N 79 = M 79) ∧ (N 0 7 = M 0 7 ∧ N 0 8 = M 0 8 ∧ N 76 5 = M 76 5 ∧ N 76 6 = M 76 6) ∧ N 78 = M 78 ∧ (∀ k, 187 ≤ k → k < 561 → N 77 k = M 77 k) ∧ (∀ a, 88 ≤ a → N a = M a)
theorem TxOk.cg (h : TxOk M) (h1 : N 56 0 = M 56 0) (h2 : N 57 = M 57) (h3 : N 76 3 = M 76 3) (h4 : N 79 = M 79) : TxOk N := by
  unfold TxOk
  rw [h1, h2, h3, h4]
  exact h
theorem FrOk.cg (h : FrOk M) (h1 : N 0 7 = M 0 7) (h2 : N 0 8 = M 0 8) (h3 : N 76 5 = M 76 5) (h4 : N 76 6 = M 76 6) : FrOk N := by
  unfold FrOk
  rw [h1, h2, h3, h4]
  exact h
theorem ReOk.cg {K' : Nat} (h : ReOk M K) (h1 : N 59 = M 59) (h2 : N 80 = M 80) (hK : K ≤ K') : ReOk N K' := by
  unfold ReOk
  rw [h1, h2]
  intro k k0 k3
  have := h k k0 k3
  omega
theorem Gl.upd {K' : Nat} (g : Gl T M K) (hk : Kept M N) (hr : Rg N 1 (N 77) 0 K') (he : ReOk N K') (hK : K ≤ K') : Gl T N K' := by
  obtain ⟨⟨t1, t2, t3, t4⟩, ⟨f1, f2, f3, f4⟩, k78, k77, k88⟩ := hk
  exact ⟨g.x, g.m, hr, g.tx.cg t1 t2 t3 t4, he, g.fr.cg f1 f2 f3 f4, g.im.cg k78 k77 k88 hK⟩
/-- one was refused, and both have counted it -/
theorem Gl.bad {k : Int} (g : Gl T M K) (k0 : 0 ≤ k) (k3 : k < 3) : Gl T (um (um M 59 k (M 59 k + 1)) 80 k (M 80 k + 1)) (K + 1) := by
  have e : ∀ a, a ≠ 59 → a ≠ 80 → um (um M 59 k (M 59 k + 1)) 80 k (M 80 k + 1) a = M a := fun a a1 a2 => by rw [um_fn a2, um_fn a1]
  refine g.upd ⟨⟨by rw [e _ (by decide) (by decide)], e _ (by decide) (by decide), by rw [e _ (by decide) (by decide)], e _ (by decide) (by decide)⟩, ⟨by rw [e _ (by decide) (by decide)], by rw [e _ (by decide) (by decide)], by rw [e _ (by decide) (by decide)], by rw [e _ (by decide) (by decide)]⟩, e _ (by decide) (by decide), fun _ _ _ => by rw [e _ (by decide) (by decide)], fun a ha => e a (by omega) (by omega)⟩ ?_ ?_ (by omega)
  · rw [e 77 (by decide) (by decide)]
    exact g.rg.cg (fun a a1 a2 _ => e a (by omega) (by omega)) (by omega)
  · intro j j0 j3
    have := g.re j j0 j3
    by_cases ej : j = k
    · subst ej
      rw [um_eq, um_na (by decide), um_eq]
      omega
    · rw [um_ni ej, um_ni ej, um_ni ej, um_ni ej]
      omega
/-- a call of both: the same answer, and they agree again -/
def Op (S : List Int) (mc mm : Nat) (vs : List AV) (T : List Sh) (M : Nat → Int → Int) (K : Nat) : Prop := ∃ v T1 M1 M2, I32 v ∧ Cl S mc (vR 0 :: vs) (T, M) (some (vI v), (T1, M1)) ∧ Cl S mm (vR 76 :: vs) (T1, M1) (some (vI v), (T1, M2)) ∧ Gl T1 M2 (K + 1)
theorem Op.bad {mc mm : Nat} {vs : List AV} {v k : Int} (g : Gl T M K) (iv : I32 v) (k0 : 0 ≤ k) (k3 : k < 3) (c1 : Cl S mc (vR 0 :: vs) (T, M) (some (vI v), (T, um M 59 k (M 59 k + 1)))) (c2 : ∀ M1, M1 80 = M 80 → Cl S mm (vR 76 :: vs) (T, M1) (some (vI v), (T, um M1 80 k (M1 80 k + 1)))) (hd : True) : Op S mc mm vs T M K := by
  refine ⟨v, T, _, _, iv, c1, c2 _ (um_fn (by decide)), ?_⟩
  rw [um_na (by decide)]
  exact g.bad k0 k3
theorem c_bad {v : Int} (hX : isX T) : Cl S 105 [vR 0, vI v] (T, M) (some (vI v), (T, um M 59 0 (M 59 0 + 1))) := by
  refine ⟨_, rfl, ?_⟩
  refine Rn.ri rfl (X_ald rfl <| X_gr 7 4 hX.ob ⟨rfl, rfl⟩ rfl rfl <| X_i <| X_du2 <| X_ia hX.re (by first | omega | (simp (disch := omega) only [um_eq, um_na, um_ni, Int.toNat_natCast]; omega)) (by first | omega | (simp (disch := omega) only [um_eq, um_na, um_ni, Int.toNat_natCast]; omega)) rfl <| X_i <| X_add <| X_is hX.re (by first | omega | (simp (disch := omega) only [um_eq, um_na, um_ni, Int.toNat_natCast]; omega)) (by first | omega | (simp (disch := omega) only [um_eq, um_na, um_ni, Int.toNat_natCast]; omega)) rfl <| X_ild rfl <| X_nil) rfl
theorem c_no (hX : isX T) : Cl S 106 [vR 0] (T, M) (some (vI (-3)), (T, um M 59 1 (M 59 1 + 1))) := by
  refine ⟨_, rfl, ?_⟩
  refine Rn.ri rfl (X_ald rfl <| X_gr 7 4 hX.ob ⟨rfl, rfl⟩ rfl rfl <| X_i <| X_du2 <| X_ia hX.re (by first | omega | (simp (disch := omega) only [um_eq, um_na, um_ni, Int.toNat_natCast]; omega)) (by first | omega | (simp (disch := omega) only [um_eq, um_na, um_ni, Int.toNat_natCast]; omega)) rfl <| X_i <| X_add <| X_is hX.re (by first | omega | (simp (disch := omega) only [um_eq, um_na, um_ni, Int.toNat_natCast]; omega)) (by first | omega | (simp (disch := omega) only [um_eq, um_na, um_ni, Int.toNat_natCast]; omega)) rfl <| X_i <| X_nil) rfl
theorem c_full (hX : isX T) : Cl S 107 [vR 0] (T, M) (some (vI (-4)), (T, um M 59 2 (M 59 2 + 1))) := by
  refine ⟨_, rfl, ?_⟩
  refine Rn.ri rfl (X_ald rfl <| X_gr 7 4 hX.ob ⟨rfl, rfl⟩ rfl rfl <| X_i <| X_du2 <| X_ia hX.re (by first | omega | (simp (disch := omega) only [um_eq, um_na, um_ni, Int.toNat_natCast]; omega)) (by first | omega | (simp (disch := omega) only [um_eq, um_na, um_ni, Int.toNat_natCast]; omega)) rfl <| X_i <| X_add <| X_is hX.re (by first | omega | (simp (disch := omega) only [um_eq, um_na, um_ni, Int.toNat_natCast]; omega)) (by first | omega | (simp (disch := omega) only [um_eq, um_na, um_ni, Int.toNat_natCast]; omega)) rfl <| X_i <| X_nil) rfl
theorem c_wY {v lo hi : Int} (iv : I32 v) (il : I32 lo) (ih : I32 hi) (hc : lo ≤ v ∧ v ≤ hi) : Cl S 103 [vI v, vI lo, vI hi] h (some (vI 1), h) := by
  have := c_within (S := S) (h := h) iv il ih
  rw [if_pos hc] at this
  exact this
theorem c_wN {v lo hi : Int} (iv : I32 v) (il : I32 lo) (ih : I32 hi) (hc : ¬ (lo ≤ v ∧ v ≤ hi)) : Cl S 103 [vI v, vI lo, vI hi] h (some (vI 0), h) := by
  have := c_within (S := S) (h := h) iv il ih
  rw [if_neg hc] at this
  exact this
theorem c_iY {v lo hi : Int} (iv : I64 v) (il : I64 lo) (ih : I64 hi) (hc : lo ≤ v ∧ v ≤ hi) : Cl S 116 [vL v, vL lo, vL hi] h (some (vI 1), h) := by
  have := c_in (S := S) (h := h) iv il ih
  rw [if_pos hc] at this
  exact this
theorem c_iN {v lo hi : Int} (iv : I64 v) (il : I64 lo) (ih : I64 hi) (hc : ¬ (lo ≤ v ∧ v ≤ hi)) : Cl S 116 [vL v, vL lo, vL hi] h (some (vI 0), h) := by
  have := c_in (S := S) (h := h) iv il ih
  rw [if_neg hc] at this
  exact this
end Glob
