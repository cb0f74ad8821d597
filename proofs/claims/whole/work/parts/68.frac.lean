/-! FRACTIONS -/
section Frac
variable {S : List Int} {T : List Sh} {M M1 N C : Nat → Int → Int} {K : Nat} {x y G : Int} {h : Hp}
def Euc : Nat → Int → Int → Int → Prop
  | 0, x, y, G => y = 0 ∧ x = G
  | k + 1, x, y, G => y ≠ 0 ∧ Euc k y (x % y) G
def p2I : Nat → Int
  | 0 => 1
  | n + 1 => 2 * p2I n
theorem euc_ex : ∀ (n : Nat) (x y : Int), 0 ≤ x → 0 ≤ y → y < p2I n → (0 < y ∨ 0 < x) → ∃ k G, k ≤ 2 * n ∧ 0 < G ∧ Euc k x y G ∧ (G ≤ x ∨ G ≤ y)
  | 0, x, y, x0, y0, yn, hp => by
    have e : p2I 0 = 1 := rfl
    have ey : y = 0 := by omega
    exact ⟨0, x, by omega, by omega, ⟨ey, rfl⟩, Or.inl (Int.le_refl x)⟩
  | n + 1, x, y, x0, y0, yn, hp => by
    have e : p2I (n + 1) = 2 * p2I n := rfl
    by_cases hy : y = 0
    · exact ⟨0, x, by omega, by omega, ⟨hy, rfl⟩, Or.inl (Int.le_refl x)⟩
    · have r0 := Int.emod_nonneg x hy
      have r1 := Int.emod_lt_of_pos x (show 0 < y by omega)
      by_cases hr : x % y = 0
      · exact ⟨1, y, by omega, by omega, ⟨hy, hr, rfl⟩, Or.inr (Int.le_refl y)⟩
      · generalize er : x % y = r at *
        have s0 := Int.emod_nonneg y hr
        have s1 := Int.emod_lt_of_pos y (show 0 < r by omega)
        have s2 := Int.mul_ediv_add_emod y r
        have q1 : 1 ≤ y / r := by
          have := Int.ediv_le_ediv (show 0 < r by omega) (show r ≤ y by omega)
          rw [Int.ediv_self hr] at this
          exact this
        have q2 : r * 1 ≤ r * (y / r) := Int.mul_le_mul_of_nonneg_left q1 (by omega)
        obtain ⟨k, G, k1, k2, k3, k4⟩ := euc_ex n r (y % r) (by omega) s0 (by omega) (Or.inr (by omega))
        have ee : Euc (k + 2) x y G := by
          show y ≠ 0 ∧ (x % y ≠ 0 ∧ Euc k (x % y) (y % (x % y)) G)
          rw [er]
          exact ⟨hy, hr, k3⟩
        exact ⟨k + 2, G, by omega, k2, ee, Or.inr (by omega)⟩
theorem c_gcd {k : Nat} (hk : k ≤ 130) (hx : 0 ≤ x ∧ x < 9000000000000000000) (hy : 0 ≤ y ∧ y < 9000000000000000000) (he : Euc k x y G) : Cl S 114 [vL x, vL y] h (some (vL G), h) := by
  have loop : ∀ (k : Nat) (s : Int) (u v : Int) (w : Option AV), 0 ≤ s → s + (k : Int) ≤ 130 → (0 ≤ u ∧ u < 9000000000000000000) → (0 ≤ v ∧ v < 9000000000000000000) → Euc k u v G → Rn S 114 9 ([], [some (vL x), none, some (vL y), none, some (vL u), none, some (vL v), none, some (vI s), w, none], h) (some (vL G), h) := by
    intro k
    induction k with
    | zero =>
      intro s u v w s0 sk hu hv he
      obtain ⟨ev, eu⟩ := he
      subst eu
      by_cases hs : s < 130
      · refine Rn.cge rfl (X_ild rfl <| X_i <| X_nil) (by first | omega | (simp (disch := omega) only [um_eq, um_na, um_ni, Int.toNat_natCast]; omega)) (by first | omega | (simp (disch := omega) only [um_eq, um_na, um_ni, Int.toNat_natCast]; omega)) (fun hc => absurd hc (by first | omega | decide | (simp (disch := omega) only [um_eq, um_na, um_ni, Int.toNat_natCast]; omega))) (fun hc => ?_)
        refine Rn.leq rfl (X_lld rfl <| X_l <| X_lcm (by first | omega | (simp (disch := omega) only [um_eq, um_na, um_ni, Int.toNat_natCast]; omega)) (by first | omega | (simp (disch := omega) only [um_eq, um_na, um_ni, Int.toNat_natCast]; omega)) <| X_nil) (fun hc => ?_) (fun hc => absurd hc (by first | omega | decide | (simp (disch := omega) only [um_eq, um_na, um_ni, Int.toNat_natCast]; omega)))
        refine Rn.rl rfl (X_lld rfl <| X_nil) rfl
      · refine Rn.cge rfl (X_ild rfl <| X_i <| X_nil) (by first | omega | (simp (disch := omega) only [um_eq, um_na, um_ni, Int.toNat_natCast]; omega)) (by first | omega | (simp (disch := omega) only [um_eq, um_na, um_ni, Int.toNat_natCast]; omega)) (fun hc => ?_) (fun hc => absurd hc (by first | omega | decide | (simp (disch := omega) only [um_eq, um_na, um_ni, Int.toNat_natCast]; omega)))
        refine Rn.rl rfl (X_lld rfl <| X_nil) rfl
    | succ k ih =>
      intro s u v w s0 sk hu hv he
      obtain ⟨ev, eu⟩ := he
      have r0 := Int.emod_nonneg u ev
      have r1 := Int.emod_lt_of_pos u (show 0 < v by omega)
      have nx := ih (s + 1) v (u % v) (some (vL (u % v))) (by omega) (by omega) hv (by omega) eu
      refine Rn.cge rfl (X_ild rfl <| X_i <| X_nil) (by first | omega | (simp (disch := omega) only [um_eq, um_na, um_ni, Int.toNat_natCast]; omega)) (by first | omega | (simp (disch := omega) only [um_eq, um_na, um_ni, Int.toNat_natCast]; omega)) (fun hc => absurd hc (by first | omega | decide | (simp (disch := omega) only [um_eq, um_na, um_ni, Int.toNat_natCast]; omega))) (fun hc => ?_)
      refine Rn.leq rfl (X_lld rfl <| X_l <| X_lcm (by first | omega | (simp (disch := omega) only [um_eq, um_na, um_ni, Int.toNat_natCast]; omega)) (by first | omega | (simp (disch := omega) only [um_eq, um_na, um_ni, Int.toNat_natCast]; omega)) <| X_nil) (fun hc => absurd hc (by first | omega | decide | (simp (disch := omega) only [um_eq, um_na, um_ni, Int.toNat_natCast]; omega))) (fun hc => ?_)
      refine Rn.jto rfl (X_lld rfl <| X_lld rfl <| X_lre (by first | omega | (simp (disch := omega) only [um_eq, um_na, um_ni, Int.toNat_natCast]; omega)) (by first | omega | (simp (disch := omega) only [um_eq, um_na, um_ni, Int.toNat_natCast]; omega)) <| X_lst rfl (L' := [_, _, _, _, _, _, _, _, _, _, _]) rfl <| X_lld rfl <| X_lst rfl (L' := [_, _, _, _, _, _, _, _, _, _, _]) rfl <| X_lld rfl <| X_lst rfl (L' := [_, _, _, _, _, _, _, _, _, _, _]) rfl <| X_inc rfl (L' := [_, _, _, _, _, _, _, _, _, _, _]) rfl <| X_nil) ?_
      exact nx
  refine ⟨_, rfl, ?_⟩
  refine Rn.fal rfl (X_lld rfl <| X_lst rfl (L' := [_, _, _, _, _, _, _, _, _, _, _]) rfl <| X_lld rfl <| X_lst rfl (L' := [_, _, _, _, _, _, _, _, _, _, _]) rfl <| X_i <| X_ist rfl (L' := [_, _, _, _, _, _, _, _, _, _, _]) rfl <| X_nil) ?_
  exact loop k 0 x y none (by omega) (by omega) hx hy he
theorem c_setF {k : Nat} (hX : isX T) (hk : k ≤ 130) (hx : 0 ≤ x ∧ x < 9000000000000000000) (hy : 0 ≤ y ∧ y < 9000000000000000000) (he : Euc k x y G) (hG : 0 < G ∧ G < 9000000000000000000) : Cl S 113 [vR 0, vL x, vL y] (T, M) (none, (T, um (um M 0 7 (x / G)) 0 8 (y / G))) := by
  refine ⟨_, rfl, ?_⟩
  refine Rn.cal rfl (X_lld rfl <| X_lld rfl <| X_nil) (vs := [_, _]) (rest := []) rfl rfl rfl rfl (c_gcd hk hx hy he) ?_
  refine Rn.lle rfl (X_lst rfl (L' := [_, _, _, _, _, _, _]) rfl <| X_lld rfl <| X_l <| X_lcm (by first | omega | (simp (disch := omega) only [um_eq, um_na, um_ni, Int.toNat_natCast]; omega)) (by first | omega | (simp (disch := omega) only [um_eq, um_na, um_ni, Int.toNat_natCast]; omega)) <| X_nil) (fun hc => absurd hc (by first | omega | decide | (simp (disch := omega) only [um_eq, um_na, um_ni, Int.toNat_natCast]; omega))) (fun hc => ?_)
  refine Rn.fal rfl (X_ald rfl <| X_lld rfl <| X_lld rfl <| X_ldi (by first | omega | (simp (disch := omega) only [um_eq, um_na, um_ni, Int.toNat_natCast]; omega)) (by first | omega | (simp (disch := omega) only [um_eq, um_na, um_ni, Int.toNat_natCast]; omega)) <| X_pl 7 7 7 hX.ob ⟨rfl, rfl, rfl⟩ rfl <| X_ald rfl <| X_lld rfl <| X_lld rfl <| X_ldi (by first | omega | (simp (disch := omega) only [um_eq, um_na, um_ni, Int.toNat_natCast]; omega)) (by first | omega | (simp (disch := omega) only [um_eq, um_na, um_ni, Int.toNat_natCast]; omega)) <| X_pl 7 8 8 hX.ob ⟨rfl, rfl, rfl⟩ rfl <| X_nil) ?_
  refine Rn.rv rfl (X_nil) rfl
theorem c_tells {k : Nat} (hM : isM T) (hx : 0 ≤ x ∧ x < 9000000000000000000) (hy : 0 ≤ y ∧ y < 9000000000000000000) (he : Euc k x y G) (hG : 0 < G ∧ G < 9000000000000000000) : Cl S 178 [vR 76, vL x, vL y] (T, M) (none, (T, um (um M 76 5 (x / G)) 76 6 (y / G))) := by
  have loop : ∀ (k : Nat) (u v : Int) (w : Option AV), (0 ≤ u ∧ u < 9000000000000000000) → (0 ≤ v ∧ v < 9000000000000000000) → Euc k u v G → Rn S 178 6 ([], [some (vR 76), some (vL x), none, some (vL y), none, some (vL u), none, some (vL v), none, w, none], T, M) (none, (T, um (um M 76 5 (x / G)) 76 6 (y / G))) := by
    intro k
    induction k with
    | zero =>
      intro u v w hu hv he
      obtain ⟨ev, eu⟩ := he
      subst eu
      refine Rn.leq rfl (X_lld rfl <| X_l <| X_lcm (by first | omega | (simp (disch := omega) only [um_eq, um_na, um_ni, Int.toNat_natCast]; omega)) (by first | omega | (simp (disch := omega) only [um_eq, um_na, um_ni, Int.toNat_natCast]; omega)) <| X_nil) (fun hc => ?_) (fun hc => absurd hc (by first | omega | decide | (simp (disch := omega) only [um_eq, um_na, um_ni, Int.toNat_natCast]; omega)))
      refine Rn.rv rfl (X_ald rfl <| X_lld rfl <| X_lld rfl <| X_ldi (by first | omega | (simp (disch := omega) only [um_eq, um_na, um_ni, Int.toNat_natCast]; omega)) (by first | omega | (simp (disch := omega) only [um_eq, um_na, um_ni, Int.toNat_natCast]; omega)) <| X_pl 8 5 5 hM.ob ⟨rfl, rfl, rfl⟩ rfl <| X_ald rfl <| X_lld rfl <| X_lld rfl <| X_ldi (by first | omega | (simp (disch := omega) only [um_eq, um_na, um_ni, Int.toNat_natCast]; omega)) (by first | omega | (simp (disch := omega) only [um_eq, um_na, um_ni, Int.toNat_natCast]; omega)) <| X_pl 8 6 6 hM.ob ⟨rfl, rfl, rfl⟩ rfl <| X_nil) rfl
    | succ k ih =>
      intro u v w hu hv he
      obtain ⟨ev, eu⟩ := he
      have r0 := Int.emod_nonneg u ev
      have r1 := Int.emod_lt_of_pos u (show 0 < v by omega)
      have nx := ih v (u % v) (some (vL (u % v))) hv (by omega) eu
      refine Rn.leq rfl (X_lld rfl <| X_l <| X_lcm (by first | omega | (simp (disch := omega) only [um_eq, um_na, um_ni, Int.toNat_natCast]; omega)) (by first | omega | (simp (disch := omega) only [um_eq, um_na, um_ni, Int.toNat_natCast]; omega)) <| X_nil) (fun hc => absurd hc (by first | omega | decide | (simp (disch := omega) only [um_eq, um_na, um_ni, Int.toNat_natCast]; omega))) (fun hc => ?_)
      refine Rn.jto rfl (X_lld rfl <| X_lld rfl <| X_lre (by first | omega | (simp (disch := omega) only [um_eq, um_na, um_ni, Int.toNat_natCast]; omega)) (by first | omega | (simp (disch := omega) only [um_eq, um_na, um_ni, Int.toNat_natCast]; omega)) <| X_lst rfl (L' := [_, _, _, _, _, _, _, _, _, _, _]) rfl <| X_lld rfl <| X_lst rfl (L' := [_, _, _, _, _, _, _, _, _, _, _]) rfl <| X_lld rfl <| X_lst rfl (L' := [_, _, _, _, _, _, _, _, _, _, _]) rfl <| X_nil) ?_
      exact nx
  refine ⟨_, rfl, ?_⟩
  refine Rn.fal rfl (X_lld rfl <| X_lst rfl (L' := [_, _, _, _, _, _, _, _, _, _, _]) rfl <| X_lld rfl <| X_lst rfl (L' := [_, _, _, _, _, _, _, _, _, _, _]) rfl <| X_nil) ?_
  exact loop k x y none hx hy he
theorem Gl.frac {p q : Int} (g : Gl T M K) (ip : I64 p) (iq : I64 q) : Gl T (um (um (um (um M 0 7 p) 0 8 q) 76 5 p) 76 6 q) (K + 1) := by
  generalize hN : um (um (um (um M 0 7 p) 0 8 q) 76 5 p) 76 6 q = N
  have e : ∀ a, a ≠ 0 → a ≠ 76 → N a = M a := fun a a1 a2 => by rw [← hN, um_fn a2, um_fn a2, um_fn a1, um_fn a1]
  have e0 : N 0 7 = p ∧ N 0 8 = q := by rw [← hN, um_na (by decide), um_na (by decide), um_ni (by decide), um_eq, um_na (by decide), um_na (by decide), um_eq]; exact ⟨rfl, rfl⟩
  have e76 : N 76 5 = p ∧ N 76 6 = q ∧ N 76 3 = M 76 3 := by rw [← hN, um_ni (by decide), um_eq, um_eq, um_ni (by decide), um_ni (by decide), um_na (by decide), um_na (by decide)]; exact ⟨rfl, rfl, rfl⟩
  have e77 := e 77 (by decide) (by decide)
  refine ⟨g.x, g.m, ?_, g.tx.cg (by rw [e 56 (by decide) (by decide)]) (e 57 (by decide) (by decide)) e76.2.2 (e 79 (by decide) (by decide)), g.re.cg (e 59 (by decide) (by decide)) (e 80 (by decide) (by decide)) (by omega), ?_, g.im.cg (e 78 (by decide) (by decide)) (fun k _ _ => by rw [e77]) (fun a ha => e a (by omega) (by omega)) (by omega)⟩
  · rw [e77]
    exact g.rg.cg (fun a a1 a2 _ => e a (by omega) (by omega)) (by omega)
  · unfold FrOk
    rw [e0.1, e0.2, e76.1, e76.2.1]
    exact ⟨⟨rfl, rfl⟩, ip, iq⟩
/-- a fraction is told by both -/
theorem frac_op (g : Gl T M K) (hx : 0 ≤ x ∧ x ≤ 100000000000000000) (hy : 0 < y ∧ y ≤ 10000000000000000) : ∃ M1 M2, Cl S 113 [vR 0, vL x, vL y] (T, M) (none, (T, M1)) ∧ Cl S 178 [vR 76, vL x, vL y] (T, M1) (none, (T, M2)) ∧ M1 77 = M 77 ∧ Gl T M2 (K + 1) := by
  have hp : y < p2I 60 := by
    have e : p2I 60 = 1152921504606846976 := by decide
    omega
  obtain ⟨k, G, k1, k2, k3, k4⟩ := euc_ex 60 x y hx.1 (by omega) hp (Or.inl hy.1)
  have c1 := c_setF (S := S) (M := M) g.x (show k ≤ 130 by omega) (by omega) (by omega) k3 (by omega)
  have c2 := c_tells (S := S) (M := um (um M 0 7 (x / G)) 0 8 (y / G)) g.m (by omega) (by omega) k3 (by omega)
  have d1 := Int.ediv_nonneg hx.1 (show 0 ≤ G by omega)
  have d2 := Int.ediv_le_self G hx.1
  have d3 := Int.ediv_nonneg (show 0 ≤ y by omega) (show 0 ≤ G by omega)
  have d4 := Int.ediv_le_self G (show 0 ≤ y by omega)
  exact ⟨_, _, c1, c2, by rw [um_fn (by decide), um_fn (by decide)], g.frac (by omega) (by omega)⟩
def pwI (v : Int) : Nat → Int
  | 0 => 1
  | n + 1 => pwI v n * v
theorem c_raised {v : Int} {n : Nat} (hn : n ≤ 100) : Cl S 179 [vL v, vI (n : Int)] h (some (vL (pwI v n)), h) := by
  have loop : ∀ (k i : Nat), i + k = n → Rn S 179 5 ([], [some (vL v), none, some (vI (n : Int)), some (vL (pwI v i)), none, some (vI (i : Int))], h) (some (vL (pwI v n)), h) := by
    intro k
    induction k with
    | zero =>
      intro i hi
      have ei : i = n := by omega
      subst ei
      refine Rn.cge rfl (X_ild rfl <| X_ild rfl <| X_nil) (by first | omega | (simp (disch := omega) only [um_eq, um_na, um_ni, Int.toNat_natCast]; omega)) (by first | omega | (simp (disch := omega) only [um_eq, um_na, um_ni, Int.toNat_natCast]; omega)) (fun hc => ?_) (fun hc => absurd hc (by first | omega | decide | (simp (disch := omega) only [um_eq, um_na, um_ni, Int.toNat_natCast]; omega)))
      refine Rn.rl rfl (X_lld rfl <| X_nil) rfl
    | succ k ih =>
      intro i hi
      have nx := ih (i + 1) (by omega)
      refine Rn.cge rfl (X_ild rfl <| X_ild rfl <| X_nil) (by first | omega | (simp (disch := omega) only [um_eq, um_na, um_ni, Int.toNat_natCast]; omega)) (by first | omega | (simp (disch := omega) only [um_eq, um_na, um_ni, Int.toNat_natCast]; omega)) (fun hc => absurd hc (by first | omega | decide | (simp (disch := omega) only [um_eq, um_na, um_ni, Int.toNat_natCast]; omega))) (fun hc => ?_)
      refine Rn.jto rfl (X_lld rfl <| X_lld rfl <| X_lmu <| X_lst rfl (L' := [_, _, _, _, _, _]) rfl <| X_inc rfl (L' := [_, _, _, _, _, _]) rfl <| X_nil) ?_
      exact nx
  refine ⟨_, rfl, ?_⟩
  refine Rn.fal rfl (X_l <| X_lst rfl (L' := [_, _, _, _, _, _]) rfl <| X_i <| X_ist rfl (L' := [_, _, _, _, _, _]) rfl <| X_nil) ?_
  exact loop n 0 (by omega)
def thrI (p : Int) : Nat → Int
  | 0 => 0
  | n + 1 => 10 * (thrI p n + pwI (10 - p) n)
def sumI (p : Int) (k : Nat) : Nat → Int
  | 0 => 0
  | t + 1 => sumI p k t + pwI (10 - p) t * pwI 10 (k - t)
theorem shoe_all {p : Int} {k : Nat} (hp : 0 ≤ p ∧ p ≤ 10) (hk : k ≤ 9) : thrI p k = sumI p k k ∧ (0 ≤ thrI p k ∧ thrI p k ≤ 100000000000) ∧ (0 ≤ pwI 10 k - pwI (10 - p) k ∧ pwI 10 k - pwI (10 - p) k ≤ 100000000000) ∧ 0 < pwI 10 k ∧ pwI 10 k ≤ 1000000000 := by
  have hd : ∀ p : Fin 11, ∀ k : Fin 10, thrI ((p.val : Nat) : Int) k.val = sumI ((p.val : Nat) : Int) k.val k.val ∧ (0 ≤ thrI ((p.val : Nat) : Int) k.val ∧ thrI ((p.val : Nat) : Int) k.val ≤ 100000000000) ∧ (0 ≤ pwI 10 k.val - pwI (10 - ((p.val : Nat) : Int)) k.val ∧ pwI 10 k.val - pwI (10 - ((p.val : Nat) : Int)) k.val ≤ 100000000000) ∧ 0 < pwI 10 k.val ∧ pwI 10 k.val ≤ 1000000000 := by decide +kernel
  have := hd ⟨p.toNat, by omega⟩ ⟨k, by omega⟩
  simp only at this
  rw [show ((p.toNat : Nat) : Int) = p by omega] at this
  exact this
theorem op_shoe {p k w : Int} (g : Gl T M K) (ip : I32 p) (ik : I32 k) (iw : I32 w) : Op S 90 180 [vI p, vI k, vI w] T M K := by
  have hX := g.x
  have hM := g.m
  by_cases h1 : 0 ≤ p ∧ p ≤ 10
  case neg =>
    refine Op.bad (v := -2) (k := 0) g (by decide) (by decide) (by decide) ⟨_, rfl, ?_⟩ (fun M1 h80 => ⟨_, rfl, ?_⟩) trivial
    · refine Rn.cal rfl (X_ild rfl <| X_i <| X_i <| X_nil) (vs := [_, _, _]) (rest := []) rfl rfl rfl rfl (c_wN (by omega) (by decide) (by decide) h1) ?_
      refine Rn.ieq rfl (X_nil) (by first | omega | (simp (disch := omega) only [um_eq, um_na, um_ni, Int.toNat_natCast]; omega)) (fun hc => ?_) (fun hc => absurd hc (by first | omega | decide | (simp (disch := omega) only [um_eq, um_na, um_ni, Int.toNat_natCast]; omega)))
      refine Rn.cal rfl (X_ald rfl <| X_i <| X_nil) (vs := [_, _]) (rest := []) rfl rfl rfl (rcv_v hX.ob (by decide)) (c_bad hX) ?_
      refine Rn.ri rfl (X_nil) rfl
    · refine Rn.cal rfl (X_ild rfl <| X_i2l (by first | omega | (simp (disch := omega) only [um_eq, um_na, um_ni, Int.toNat_natCast]; omega)) <| X_l <| X_l <| X_nil) (vs := [_, _, _]) (rest := []) rfl rfl rfl rfl (c_iN (by omega) (by decide) (by decide) h1) ?_
      refine Rn.ieq rfl (X_nil) (by first | omega | (simp (disch := omega) only [um_eq, um_na, um_ni, Int.toNat_natCast]; omega)) (fun hc => ?_) (fun hc => absurd hc (by first | omega | decide | (simp (disch := omega) only [um_eq, um_na, um_ni, Int.toNat_natCast]; omega)))
      refine Rn.cal rfl (X_ald rfl <| X_nil) (vs := [_]) (rest := []) rfl rfl rfl (rcv_v hM.ob (by decide)) (c_mbad hM) ?_
      refine Rn.ri rfl (X_nil) rfl
  by_cases h2 : 0 ≤ k ∧ k ≤ 9
  case neg =>
    refine Op.bad (v := -2) (k := 0) g (by decide) (by decide) (by decide) ⟨_, rfl, ?_⟩ (fun M1 h80 => ⟨_, rfl, ?_⟩) trivial
    · refine Rn.cal rfl (X_ild rfl <| X_i <| X_i <| X_nil) (vs := [_, _, _]) (rest := []) rfl rfl rfl rfl (c_wY (by omega) (by decide) (by decide) h1) ?_
      refine Rn.ieq rfl (X_nil) (by first | omega | (simp (disch := omega) only [um_eq, um_na, um_ni, Int.toNat_natCast]; omega)) (fun hc => absurd hc (by first | omega | decide | (simp (disch := omega) only [um_eq, um_na, um_ni, Int.toNat_natCast]; omega))) (fun hc => ?_)
      refine Rn.cal rfl (X_ild rfl <| X_i <| X_i <| X_nil) (vs := [_, _, _]) (rest := []) rfl rfl rfl rfl (c_wN (by omega) (by decide) (by decide) h2) ?_
      refine Rn.ieq rfl (X_nil) (by first | omega | (simp (disch := omega) only [um_eq, um_na, um_ni, Int.toNat_natCast]; omega)) (fun hc => ?_) (fun hc => absurd hc (by first | omega | decide | (simp (disch := omega) only [um_eq, um_na, um_ni, Int.toNat_natCast]; omega)))
      refine Rn.cal rfl (X_ald rfl <| X_i <| X_nil) (vs := [_, _]) (rest := []) rfl rfl rfl (rcv_v hX.ob (by decide)) (c_bad hX) ?_
      refine Rn.ri rfl (X_nil) rfl
    · refine Rn.cal rfl (X_ild rfl <| X_i2l (by first | omega | (simp (disch := omega) only [um_eq, um_na, um_ni, Int.toNat_natCast]; omega)) <| X_l <| X_l <| X_nil) (vs := [_, _, _]) (rest := []) rfl rfl rfl rfl (c_iY (by omega) (by decide) (by decide) h1) ?_
      refine Rn.ieq rfl (X_nil) (by first | omega | (simp (disch := omega) only [um_eq, um_na, um_ni, Int.toNat_natCast]; omega)) (fun hc => absurd hc (by first | omega | decide | (simp (disch := omega) only [um_eq, um_na, um_ni, Int.toNat_natCast]; omega))) (fun hc => ?_)
      refine Rn.cal rfl (X_ild rfl <| X_i2l (by first | omega | (simp (disch := omega) only [um_eq, um_na, um_ni, Int.toNat_natCast]; omega)) <| X_l <| X_l <| X_nil) (vs := [_, _, _]) (rest := []) rfl rfl rfl rfl (c_iN (by omega) (by decide) (by decide) h2) ?_
      refine Rn.ieq rfl (X_nil) (by first | omega | (simp (disch := omega) only [um_eq, um_na, um_ni, Int.toNat_natCast]; omega)) (fun hc => ?_) (fun hc => absurd hc (by first | omega | decide | (simp (disch := omega) only [um_eq, um_na, um_ni, Int.toNat_natCast]; omega)))
      refine Rn.cal rfl (X_ald rfl <| X_nil) (vs := [_]) (rest := []) rfl rfl rfl (rcv_v hM.ob (by decide)) (c_mbad hM) ?_
      refine Rn.ri rfl (X_nil) rfl
  by_cases h3 : 0 ≤ w ∧ w ≤ 1
  case neg =>
    refine Op.bad (v := -2) (k := 0) g (by decide) (by decide) (by decide) ⟨_, rfl, ?_⟩ (fun M1 h80 => ⟨_, rfl, ?_⟩) trivial
    · refine Rn.cal rfl (X_ild rfl <| X_i <| X_i <| X_nil) (vs := [_, _, _]) (rest := []) rfl rfl rfl rfl (c_wY (by omega) (by decide) (by decide) h1) ?_
      refine Rn.ieq rfl (X_nil) (by first | omega | (simp (disch := omega) only [um_eq, um_na, um_ni, Int.toNat_natCast]; omega)) (fun hc => absurd hc (by first | omega | decide | (simp (disch := omega) only [um_eq, um_na, um_ni, Int.toNat_natCast]; omega))) (fun hc => ?_)
      refine Rn.cal rfl (X_ild rfl <| X_i <| X_i <| X_nil) (vs := [_, _, _]) (rest := []) rfl rfl rfl rfl (c_wY (by omega) (by decide) (by decide) h2) ?_
      refine Rn.ieq rfl (X_nil) (by first | omega | (simp (disch := omega) only [um_eq, um_na, um_ni, Int.toNat_natCast]; omega)) (fun hc => absurd hc (by first | omega | decide | (simp (disch := omega) only [um_eq, um_na, um_ni, Int.toNat_natCast]; omega))) (fun hc => ?_)
      refine Rn.cal rfl (X_ild rfl <| X_i <| X_i <| X_nil) (vs := [_, _, _]) (rest := []) rfl rfl rfl rfl (c_wN (by omega) (by decide) (by decide) h3) ?_
      refine Rn.ine rfl (X_nil) (by first | omega | (simp (disch := omega) only [um_eq, um_na, um_ni, Int.toNat_natCast]; omega)) (fun hc => absurd hc (by first | omega | decide | (simp (disch := omega) only [um_eq, um_na, um_ni, Int.toNat_natCast]; omega))) (fun hc => ?_)
      refine Rn.cal rfl (X_ald rfl <| X_i <| X_nil) (vs := [_, _]) (rest := []) rfl rfl rfl (rcv_v hX.ob (by decide)) (c_bad hX) ?_
      refine Rn.ri rfl (X_nil) rfl
    · refine Rn.cal rfl (X_ild rfl <| X_i2l (by first | omega | (simp (disch := omega) only [um_eq, um_na, um_ni, Int.toNat_natCast]; omega)) <| X_l <| X_l <| X_nil) (vs := [_, _, _]) (rest := []) rfl rfl rfl rfl (c_iY (by omega) (by decide) (by decide) h1) ?_
      refine Rn.ieq rfl (X_nil) (by first | omega | (simp (disch := omega) only [um_eq, um_na, um_ni, Int.toNat_natCast]; omega)) (fun hc => absurd hc (by first | omega | decide | (simp (disch := omega) only [um_eq, um_na, um_ni, Int.toNat_natCast]; omega))) (fun hc => ?_)
      refine Rn.cal rfl (X_ild rfl <| X_i2l (by first | omega | (simp (disch := omega) only [um_eq, um_na, um_ni, Int.toNat_natCast]; omega)) <| X_l <| X_l <| X_nil) (vs := [_, _, _]) (rest := []) rfl rfl rfl rfl (c_iY (by omega) (by decide) (by decide) h2) ?_
      refine Rn.ieq rfl (X_nil) (by first | omega | (simp (disch := omega) only [um_eq, um_na, um_ni, Int.toNat_natCast]; omega)) (fun hc => absurd hc (by first | omega | decide | (simp (disch := omega) only [um_eq, um_na, um_ni, Int.toNat_natCast]; omega))) (fun hc => ?_)
      refine Rn.cal rfl (X_ild rfl <| X_i2l (by first | omega | (simp (disch := omega) only [um_eq, um_na, um_ni, Int.toNat_natCast]; omega)) <| X_l <| X_l <| X_nil) (vs := [_, _, _]) (rest := []) rfl rfl rfl rfl (c_iN (by omega) (by decide) (by decide) h3) ?_
      refine Rn.ine rfl (X_nil) (by first | omega | (simp (disch := omega) only [um_eq, um_na, um_ni, Int.toNat_natCast]; omega)) (fun hc => absurd hc (by first | omega | decide | (simp (disch := omega) only [um_eq, um_na, um_ni, Int.toNat_natCast]; omega))) (fun hc => ?_)
      refine Rn.cal rfl (X_ald rfl <| X_nil) (vs := [_]) (rest := []) rfl rfl rfl (rcv_v hM.ob (by decide)) (c_mbad hM) ?_
      refine Rn.ri rfl (X_nil) rfl
  obtain ⟨n, rfl⟩ : ∃ n : Nat, k = (n : Int) := ⟨k.toNat, by omega⟩
  obtain ⟨s1, s2, s3, s4⟩ := shoe_all (k := n) h1 (by omega)
  have cloop : ∀ r, Rn S 90 89 ([], [some (vR 0), some (vI p), some (vI (n : Int)), some (vI w), some (vL (pwI 10 n)), none, some (vL (pwI (10 - p) n)), none, some (vL (thrI p n)), none, some (vI (n : Int))], T, M) r → ∀ (d i : Nat), i + d = n → Rn S 90 48 ([], [some (vR 0), some (vI p), some (vI (n : Int)), some (vI w), some (vL (pwI 10 i)), none, some (vL (pwI (10 - p) i)), none, some (vL (thrI p i)), none, some (vI (i : Int))], T, M) r := by
    intro r hr d
    induction d with
    | zero =>
      intro i hi
      have ei : i = n := by omega
      subst ei
      refine Rn.cge rfl (X_ild rfl <| X_ild rfl <| X_nil) (by first | omega | (simp (disch := omega) only [um_eq, um_na, um_ni, Int.toNat_natCast]; omega)) (by first | omega | (simp (disch := omega) only [um_eq, um_na, um_ni, Int.toNat_natCast]; omega)) (fun hc => ?_) (fun hc => absurd hc (by first | omega | decide | (simp (disch := omega) only [um_eq, um_na, um_ni, Int.toNat_natCast]; omega)))
      exact hr
    | succ d ih =>
      intro i hi
      have nx := ih (i + 1) (by omega)
      refine Rn.cge rfl (X_ild rfl <| X_ild rfl <| X_nil) (by first | omega | (simp (disch := omega) only [um_eq, um_na, um_ni, Int.toNat_natCast]; omega)) (by first | omega | (simp (disch := omega) only [um_eq, um_na, um_ni, Int.toNat_natCast]; omega)) (fun hc => absurd hc (by first | omega | decide | (simp (disch := omega) only [um_eq, um_na, um_ni, Int.toNat_natCast]; omega))) (fun hc => ?_)
      refine Rn.jto rfl (X_l <| X_lld rfl <| X_lld rfl <| X_lad <| X_lmu <| X_lst rfl (L' := [_, _, _, _, _, _, _, _, _, _, _]) rfl <| X_lld rfl <| X_i <| X_ild rfl <| X_sub <| X_i2l (by first | omega | (simp (disch := omega) only [um_eq, um_na, um_ni, Int.toNat_natCast]; omega)) <| X_lmu <| X_lst rfl (L' := [_, _, _, _, _, _, _, _, _, _, _]) rfl <| X_lld rfl <| X_l <| X_lmu <| X_lst rfl (L' := [_, _, _, _, _, _, _, _, _, _, _]) rfl <| X_inc rfl (L' := [_, _, _, _, _, _, _, _, _, _, _]) rfl <| X_nil) ?_
      exact nx
  have mloop : ∀ (N : Nat → Int → Int) r, Rn S 180 93 ([], [some (vR 76), some (vI p), some (vI (n : Int)), some (vI w), some (vL (pwI 10 n)), none, some (vL (sumI p n n)), none, some (vI (n : Int))], T, N) r → ∀ (d i : Nat), i + d = n → Rn S 180 54 ([], [some (vR 76), some (vI p), some (vI (n : Int)), some (vI w), some (vL (pwI 10 n)), none, some (vL (sumI p n i)), none, some (vI (i : Int))], T, N) r := by
    intro N r hr d
    induction d with
    | zero =>
      intro i hi
      have ei : i = n := by omega
      subst ei
      refine Rn.cge rfl (X_ild rfl <| X_ild rfl <| X_nil) (by first | omega | (simp (disch := omega) only [um_eq, um_na, um_ni, Int.toNat_natCast]; omega)) (by first | omega | (simp (disch := omega) only [um_eq, um_na, um_ni, Int.toNat_natCast]; omega)) (fun hc => ?_) (fun hc => absurd hc (by first | omega | decide | (simp (disch := omega) only [um_eq, um_na, um_ni, Int.toNat_natCast]; omega)))
      exact hr
    | succ d ih =>
      intro i hi
      have nx := ih (i + 1) (by omega)
      have c1 := c_raised (S := S) (h := (T, N)) (v := 10 - p) (n := i) (by omega)
      have c2 := c_raised (S := S) (h := (T, N)) (v := 10) (n := n - i) (by omega)
      rw [show ((n - i : Nat) : Int) = (n : Int) - (i : Int) by omega] at c2
      refine Rn.cge rfl (X_ild rfl <| X_ild rfl <| X_nil) (by first | omega | (simp (disch := omega) only [um_eq, um_na, um_ni, Int.toNat_natCast]; omega)) (by first | omega | (simp (disch := omega) only [um_eq, um_na, um_ni, Int.toNat_natCast]; omega)) (fun hc => absurd hc (by first | omega | decide | (simp (disch := omega) only [um_eq, um_na, um_ni, Int.toNat_natCast]; omega))) (fun hc => ?_)
      refine Rn.cal rfl (X_lld rfl <| X_l <| X_ild rfl <| X_i2l (by first | omega | (simp (disch := omega) only [um_eq, um_na, um_ni, Int.toNat_natCast]; omega)) <| X_lsu <| X_ild rfl <| X_nil) (vs := [_, _]) (rest := [_]) rfl rfl rfl rfl (c1) ?_
      refine Rn.cal rfl (X_l <| X_ild rfl <| X_ild rfl <| X_sub <| X_nil) (vs := [_, _]) (rest := [_, _]) rfl rfl rfl rfl (c2) ?_
      refine Rn.jto rfl (X_lmu <| X_lad <| X_lst rfl (L' := [_, _, _, _, _, _, _, _, _]) rfl <| X_inc rfl (L' := [_, _, _, _, _, _, _, _, _]) rfl <| X_nil) ?_
      exact nx
  have cr := fun N => c_raised (S := S) (h := (T, N)) (v := 10) (n := n) (by omega)
  rcases (show w = 0 ∨ w = 1 by omega) with rfl | rfl
  · obtain ⟨M1, M2, f1, f2, f3, f4⟩ := frac_op (S := S) (x := pwI 10 n - pwI (10 - p) n) (y := pwI 10 n) g (by omega) (by omega)
    refine ⟨1, T, M1, M2, by decide, ⟨_, rfl, ?_⟩, ⟨_, rfl, ?_⟩, f4⟩
    · refine Rn.cal rfl (X_ild rfl <| X_i <| X_i <| X_nil) (vs := [_, _, _]) (rest := []) rfl rfl rfl rfl (c_wY (by omega) (by decide) (by decide) h1) ?_
      refine Rn.ieq rfl (X_nil) (by first | omega | (simp (disch := omega) only [um_eq, um_na, um_ni, Int.toNat_natCast]; omega)) (fun hc => absurd hc (by first | omega | decide | (simp (disch := omega) only [um_eq, um_na, um_ni, Int.toNat_natCast]; omega))) (fun hc => ?_)
      refine Rn.cal rfl (X_ild rfl <| X_i <| X_i <| X_nil) (vs := [_, _, _]) (rest := []) rfl rfl rfl rfl (c_wY (by omega) (by decide) (by decide) h2) ?_
      refine Rn.ieq rfl (X_nil) (by first | omega | (simp (disch := omega) only [um_eq, um_na, um_ni, Int.toNat_natCast]; omega)) (fun hc => absurd hc (by first | omega | decide | (simp (disch := omega) only [um_eq, um_na, um_ni, Int.toNat_natCast]; omega))) (fun hc => ?_)
      refine Rn.cal rfl (X_ild rfl <| X_i <| X_i <| X_nil) (vs := [_, _, _]) (rest := []) rfl rfl rfl rfl (c_wY (by omega) (by decide) (by decide) h3) ?_
      refine Rn.ine rfl (X_nil) (by first | omega | (simp (disch := omega) only [um_eq, um_na, um_ni, Int.toNat_natCast]; omega)) (fun hc => ?_) (fun hc => absurd hc (by first | omega | decide | (simp (disch := omega) only [um_eq, um_na, um_ni, Int.toNat_natCast]; omega)))
      refine Rn.fal rfl (X_l <| X_lst rfl (L' := [_, _, _, _, _, _, _, _, _, _, _]) rfl <| X_l <| X_lst rfl (L' := [_, _, _, _, _, _, _, _, _, _, _]) rfl <| X_l <| X_lst rfl (L' := [_, _, _, _, _, _, _, _, _, _, _]) rfl <| X_i <| X_ist rfl (L' := [_, _, _, _, _, _, _, _, _, _, _]) rfl <| X_nil) ?_
      refine cloop _ ?_ n 0 (by omega)
      refine Rn.ine rfl (X_ald rfl <| X_ild rfl <| X_nil) (by first | omega | (simp (disch := omega) only [um_eq, um_na, um_ni, Int.toNat_natCast]; omega)) (fun hc => absurd hc (by first | omega | decide | (simp (disch := omega) only [um_eq, um_na, um_ni, Int.toNat_natCast]; omega))) (fun hc => ?_)
      refine Rn.jto rfl (X_lld rfl <| X_lld rfl <| X_lsu <| X_nil) ?_
      refine Rn.cal rfl (X_lld rfl <| X_nil) (vs := [_, _, _]) (rest := []) rfl rfl rfl (rcv_v hX.ob (by decide)) (f1) ?_
      refine Rn.ri rfl (X_i <| X_nil) rfl
    · have c2 := c_raised (S := S) (h := (T, M1)) (v := 10 - p) (n := n) (by omega)
      refine Rn.cal rfl (X_ild rfl <| X_i2l (by first | omega | (simp (disch := omega) only [um_eq, um_na, um_ni, Int.toNat_natCast]; omega)) <| X_l <| X_l <| X_nil) (vs := [_, _, _]) (rest := []) rfl rfl rfl rfl (c_iY (by omega) (by decide) (by decide) h1) ?_
      refine Rn.ieq rfl (X_nil) (by first | omega | (simp (disch := omega) only [um_eq, um_na, um_ni, Int.toNat_natCast]; omega)) (fun hc => absurd hc (by first | omega | decide | (simp (disch := omega) only [um_eq, um_na, um_ni, Int.toNat_natCast]; omega))) (fun hc => ?_)
      refine Rn.cal rfl (X_ild rfl <| X_i2l (by first | omega | (simp (disch := omega) only [um_eq, um_na, um_ni, Int.toNat_natCast]; omega)) <| X_l <| X_l <| X_nil) (vs := [_, _, _]) (rest := []) rfl rfl rfl rfl (c_iY (by omega) (by decide) (by decide) h2) ?_
      refine Rn.ieq rfl (X_nil) (by first | omega | (simp (disch := omega) only [um_eq, um_na, um_ni, Int.toNat_natCast]; omega)) (fun hc => absurd hc (by first | omega | decide | (simp (disch := omega) only [um_eq, um_na, um_ni, Int.toNat_natCast]; omega))) (fun hc => ?_)
      refine Rn.cal rfl (X_ild rfl <| X_i2l (by first | omega | (simp (disch := omega) only [um_eq, um_na, um_ni, Int.toNat_natCast]; omega)) <| X_l <| X_l <| X_nil) (vs := [_, _, _]) (rest := []) rfl rfl rfl rfl (c_iY (by omega) (by decide) (by decide) h3) ?_
      refine Rn.ine rfl (X_nil) (by first | omega | (simp (disch := omega) only [um_eq, um_na, um_ni, Int.toNat_natCast]; omega)) (fun hc => ?_) (fun hc => absurd hc (by first | omega | decide | (simp (disch := omega) only [um_eq, um_na, um_ni, Int.toNat_natCast]; omega)))
      refine Rn.cal rfl (X_l <| X_ild rfl <| X_nil) (vs := [_, _]) (rest := []) rfl rfl rfl rfl (cr M1) ?_
      refine Rn.fal rfl (X_lst rfl (L' := [_, _, _, _, _, _, _, _, _]) rfl <| X_l <| X_lst rfl (L' := [_, _, _, _, _, _, _, _, _]) rfl <| X_i <| X_ist rfl (L' := [_, _, _, _, _, _, _, _, _]) rfl <| X_nil) ?_
      refine mloop M1 _ ?_ n 0 (by omega)
      refine Rn.ine rfl (X_ald rfl <| X_ild rfl <| X_nil) (by first | omega | (simp (disch := omega) only [um_eq, um_na, um_ni, Int.toNat_natCast]; omega)) (fun hc => absurd hc (by first | omega | decide | (simp (disch := omega) only [um_eq, um_na, um_ni, Int.toNat_natCast]; omega))) (fun hc => ?_)
      refine Rn.cal rfl (X_lld rfl <| X_l <| X_ild rfl <| X_i2l (by first | omega | (simp (disch := omega) only [um_eq, um_na, um_ni, Int.toNat_natCast]; omega)) <| X_lsu <| X_ild rfl <| X_nil) (vs := [_, _]) (rest := [_, _]) rfl rfl rfl rfl (c2) ?_
      refine Rn.jto rfl (X_lsu <| X_nil) ?_
      refine Rn.cal rfl (X_lld rfl <| X_nil) (vs := [_, _, _]) (rest := []) rfl rfl rfl (rcv_v hM.ob (by decide)) (f2) ?_
      refine Rn.ri rfl (X_i <| X_nil) rfl
  · obtain ⟨M1, M2, f1, f2, f3, f4⟩ := frac_op (S := S) (x := thrI p n) (y := pwI 10 n) g (by omega) (by omega)
    refine ⟨1, T, M1, M2, by decide, ⟨_, rfl, ?_⟩, ⟨_, rfl, ?_⟩, f4⟩
    · refine Rn.cal rfl (X_ild rfl <| X_i <| X_i <| X_nil) (vs := [_, _, _]) (rest := []) rfl rfl rfl rfl (c_wY (by omega) (by decide) (by decide) h1) ?_
      refine Rn.ieq rfl (X_nil) (by first | omega | (simp (disch := omega) only [um_eq, um_na, um_ni, Int.toNat_natCast]; omega)) (fun hc => absurd hc (by first | omega | decide | (simp (disch := omega) only [um_eq, um_na, um_ni, Int.toNat_natCast]; omega))) (fun hc => ?_)
      refine Rn.cal rfl (X_ild rfl <| X_i <| X_i <| X_nil) (vs := [_, _, _]) (rest := []) rfl rfl rfl rfl (c_wY (by omega) (by decide) (by decide) h2) ?_
      refine Rn.ieq rfl (X_nil) (by first | omega | (simp (disch := omega) only [um_eq, um_na, um_ni, Int.toNat_natCast]; omega)) (fun hc => absurd hc (by first | omega | decide | (simp (disch := omega) only [um_eq, um_na, um_ni, Int.toNat_natCast]; omega))) (fun hc => ?_)
      refine Rn.cal rfl (X_ild rfl <| X_i <| X_i <| X_nil) (vs := [_, _, _]) (rest := []) rfl rfl rfl rfl (c_wY (by omega) (by decide) (by decide) h3) ?_
      refine Rn.ine rfl (X_nil) (by first | omega | (simp (disch := omega) only [um_eq, um_na, um_ni, Int.toNat_natCast]; omega)) (fun hc => ?_) (fun hc => absurd hc (by first | omega | decide | (simp (disch := omega) only [um_eq, um_na, um_ni, Int.toNat_natCast]; omega)))
      refine Rn.fal rfl (X_l <| X_lst rfl (L' := [_, _, _, _, _, _, _, _, _, _, _]) rfl <| X_l <| X_lst rfl (L' := [_, _, _, _, _, _, _, _, _, _, _]) rfl <| X_l <| X_lst rfl (L' := [_, _, _, _, _, _, _, _, _, _, _]) rfl <| X_i <| X_ist rfl (L' := [_, _, _, _, _, _, _, _, _, _, _]) rfl <| X_nil) ?_
      refine cloop _ ?_ n 0 (by omega)
      refine Rn.ine rfl (X_ald rfl <| X_ild rfl <| X_nil) (by first | omega | (simp (disch := omega) only [um_eq, um_na, um_ni, Int.toNat_natCast]; omega)) (fun hc => ?_) (fun hc => absurd hc (by first | omega | decide | (simp (disch := omega) only [um_eq, um_na, um_ni, Int.toNat_natCast]; omega)))
      refine Rn.fal rfl (X_lld rfl <| X_nil) ?_
      refine Rn.cal rfl (X_lld rfl <| X_nil) (vs := [_, _, _]) (rest := []) rfl rfl rfl (rcv_v hX.ob (by decide)) (f1) ?_
      refine Rn.ri rfl (X_i <| X_nil) rfl
    · rw [s1] at f2
      refine Rn.cal rfl (X_ild rfl <| X_i2l (by first | omega | (simp (disch := omega) only [um_eq, um_na, um_ni, Int.toNat_natCast]; omega)) <| X_l <| X_l <| X_nil) (vs := [_, _, _]) (rest := []) rfl rfl rfl rfl (c_iY (by omega) (by decide) (by decide) h1) ?_
      refine Rn.ieq rfl (X_nil) (by first | omega | (simp (disch := omega) only [um_eq, um_na, um_ni, Int.toNat_natCast]; omega)) (fun hc => absurd hc (by first | omega | decide | (simp (disch := omega) only [um_eq, um_na, um_ni, Int.toNat_natCast]; omega))) (fun hc => ?_)
      refine Rn.cal rfl (X_ild rfl <| X_i2l (by first | omega | (simp (disch := omega) only [um_eq, um_na, um_ni, Int.toNat_natCast]; omega)) <| X_l <| X_l <| X_nil) (vs := [_, _, _]) (rest := []) rfl rfl rfl rfl (c_iY (by omega) (by decide) (by decide) h2) ?_
      refine Rn.ieq rfl (X_nil) (by first | omega | (simp (disch := omega) only [um_eq, um_na, um_ni, Int.toNat_natCast]; omega)) (fun hc => absurd hc (by first | omega | decide | (simp (disch := omega) only [um_eq, um_na, um_ni, Int.toNat_natCast]; omega))) (fun hc => ?_)
      refine Rn.cal rfl (X_ild rfl <| X_i2l (by first | omega | (simp (disch := omega) only [um_eq, um_na, um_ni, Int.toNat_natCast]; omega)) <| X_l <| X_l <| X_nil) (vs := [_, _, _]) (rest := []) rfl rfl rfl rfl (c_iY (by omega) (by decide) (by decide) h3) ?_
      refine Rn.ine rfl (X_nil) (by first | omega | (simp (disch := omega) only [um_eq, um_na, um_ni, Int.toNat_natCast]; omega)) (fun hc => ?_) (fun hc => absurd hc (by first | omega | decide | (simp (disch := omega) only [um_eq, um_na, um_ni, Int.toNat_natCast]; omega)))
      refine Rn.cal rfl (X_l <| X_ild rfl <| X_nil) (vs := [_, _]) (rest := []) rfl rfl rfl rfl (cr M1) ?_
      refine Rn.fal rfl (X_lst rfl (L' := [_, _, _, _, _, _, _, _, _]) rfl <| X_l <| X_lst rfl (L' := [_, _, _, _, _, _, _, _, _]) rfl <| X_i <| X_ist rfl (L' := [_, _, _, _, _, _, _, _, _]) rfl <| X_nil) ?_
      refine mloop M1 _ ?_ n 0 (by omega)
      refine Rn.ine rfl (X_ald rfl <| X_ild rfl <| X_nil) (by first | omega | (simp (disch := omega) only [um_eq, um_na, um_ni, Int.toNat_natCast]; omega)) (fun hc => ?_) (fun hc => absurd hc (by first | omega | decide | (simp (disch := omega) only [um_eq, um_na, um_ni, Int.toNat_natCast]; omega)))
      refine Rn.fal rfl (X_lld rfl <| X_nil) ?_
      refine Rn.cal rfl (X_lld rfl <| X_nil) (vs := [_, _, _]) (rest := []) rfl rfl rfl (rcv_v hM.ob (by decide)) (f2) ?_
      refine Rn.ri rfl (X_i <| X_nil) rfl
end Frac
