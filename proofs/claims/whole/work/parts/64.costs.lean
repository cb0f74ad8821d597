/-! WAITING: what each pair would cost -/
section Costs
variable {S : List Int} {T : List Sh} {M M1 N C C' D X : Nat → Int → Int} {a b b' K j x y : Nat} {v : Int} {h : Hp}
def XP (M1 : Nat → Int → Int) (x y : Nat) (p q : Nat) : Nat → Int → Int := um (um M1 (28 + 16 + 2 * x) 4 (10 * (p : Int))) (28 + 16 + 2 * y) 4 (10 * (q : Int))
def cst (M1 : Nat → Int → Int) (x y : Nat) (v : Int) (o : Nat) (p q : Nat) : Int := nCost (XP M1 x y p q) 28 (nightV (XP M1 x y p q) 28) (2 * v) o
theorem XP_ne {p q a : Nat} (h1 : a ≠ 28 + 16 + 2 * x) (h2 : a ≠ 28 + 16 + 2 * y) : XP M1 x y p q a = M1 a := by
  unfold XP
  rw [um_fn h2, um_fn h1]
theorem XP_k {p q a : Nat} {k : Int} (hk : k ≠ 4) : XP M1 x y p q a k = M1 a k := by
  unfold XP
  rw [um_ni hk, um_ni hk]
theorem XP_x {p q : Nat} (hxy : x ≠ y) : XP M1 x y p q (28 + 16 + 2 * x) 4 = 10 * (p : Int) := by
  unfold XP
  rw [um_na (by omega), um_eq]
theorem XP_y {p q : Nat} : XP M1 x y p q (28 + 16 + 2 * y) 4 = 10 * (q : Int) := by
  unfold XP
  exact um_eq
theorem XP_tr {p q s : Nat} (nt : NtOk M1 28 K 0) (hxy : x ≠ y) (hp : p < 7) (hq : q < 7) (hs : (s : Int) < M1 (28 + 4) 1) : TrN (XP M1 x y p q) (28 + 16 + 2 * s) K 0 := by
  have t := nt.2.2.2.2 s hs
  obtain ⟨⟨t0, t1, t2, t3, t4, t5⟩, t6, t7⟩ := t
  have e4 : 0 ≤ XP M1 x y p q (28 + 16 + 2 * s) 4 ∧ XP M1 x y p q (28 + 16 + 2 * s) 4 ≤ 60 := by
    by_cases es : s = x
    · subst es
      rw [XP_x hxy]
      omega
    · by_cases es2 : s = y
      · subst es2
        rw [XP_y]
        omega
      · rw [XP_ne (by omega) (by omega)]
        exact t4
  unfold TrN
  rw [XP_k (k := 0) (by decide), XP_k (k := 1) (by decide), XP_k (k := 2) (by decide), XP_k (k := 3) (by decide), XP_k (k := 5) (by decide), XP_k (k := 6) (by decide), XP_k (k := 7) (by decide)]
  exact ⟨⟨t0, t1, t2, t3, e4, t5⟩, t6, t7⟩
theorem cst_in {p q o : Nat} (nt : NtOk M1 28 K 0) (hK : K ≤ 100) (v2 : 0 ≤ v ∧ v ≤ 200) (hxy : x ≠ y) (hp : p < 7) (hq : q < 7) (ho : (o : Int) < M1 (28 + 4) 1) : 0 ≤ cst M1 x y v o p q ∧ cst M1 x y v o p q ≤ 4000 := by
  have t := (XP_tr nt hxy hp hq ho).ok hK (by omega)
  have hb : BeOk (XP M1 x y p q) 28 := by
    have h4 : XP M1 x y p q (28 + 4) = M1 (28 + 4) := XP_ne (by omega) (by omega)
    have bo := nt.be hK (by omega)
    unfold BeOk at bo ⊢
    rw [h4]
    exact ⟨bo.1, bo.2.1, bo.2.2.1, fun s hs => (XP_tr nt hxy hp hq hs).ok hK (by omega)⟩
  have ni := nightV_in hb
  exact nCost_in t (by omega) (by omega) (by omega) (by omega)
/-- the class's trial while the pairs are tried -/
def PrOk (M1 D : Nat → Int → Int) (x y K : Nat) : Prop := NtOk D 28 K 0 ∧ (∀ k, k ≠ 8 → D 29 k = M1 29 k) ∧ (∀ s : Nat, ∀ k, k ≠ 4 ∨ (s ≠ x ∧ s ≠ y) → s < 4 → D (28 + 16 + 2 * s) k = M1 (28 + 16 + 2 * s) k) ∧ D 30 = M1 30 ∧ D 32 = M1 32 ∧ ∀ a, a < 28 ∨ 55 ≤ a → ¬ (60 ≤ a ∧ a ≤ 75) → D a = M1 a
theorem PrOk.set {s : Nat} {w : Int} (h : PrOk M1 D x y K) (hs : s = x ∨ s = y) (hs4 : s < 4) (hw : 0 ≤ w ∧ w ≤ 60) : PrOk M1 (um D (28 + 16 + 2 * s) 4 w) x y K := by
  obtain ⟨h1, h2, h3, h30, h32, h4⟩ := h
  refine ⟨h1.cg (um_fn (by omega)) (um_fn (by omega)) (um_fn (by omega)) (fun i hi => ?_), fun k hk => by rw [um_na (by omega)]; exact h2 k hk, fun i k hk hi => ?_, by rw [um_fn (by omega)]; exact h30, by rw [um_fn (by omega)]; exact h32, fun a a1 a2 => ?_⟩
  · obtain ⟨⟨t0, t1, t2, t3, t4, t5⟩, t6, t7⟩ := h1.2.2.2.2 i hi
    unfold TrN
    have ek : ∀ k, k ≠ 4 → um D (28 + 16 + 2 * s) 4 w (28 + 16 + 2 * i) k = D (28 + 16 + 2 * i) k := fun k hk => um_ni hk
    rw [ek 0 (by decide), ek 1 (by decide), ek 2 (by decide), ek 3 (by decide), ek 5 (by decide), ek 6 (by decide), ek 7 (by decide)]
    refine ⟨⟨t0, t1, t2, t3, ?_, t5⟩, t6, t7⟩
    by_cases es : i = s
    · subst es
      rw [um_eq]
      exact hw
    · rw [um_na (by omega)]
      exact t4
  · by_cases ek : k = 4
    · rw [um_na (by omega)]
      exact h3 i k hk hi
    · rw [um_ni ek]
      exact h3 i k hk hi
  · rw [um_fn (by omega)]
    exact h4 a a1 a2
theorem PrOk.out {w i : Int} (h : PrOk M1 D x y K) (ha : 60 ≤ a ∧ a ≤ 75) : PrOk M1 (um D a i w) x y K := by
  obtain ⟨h1, h2, h3, h30, h32, h4⟩ := h
  refine ⟨h1.cg (um_fn (by omega)) (um_fn (by omega)) (um_fn (by omega)) (fun i hi => ?_), fun k hk => by rw [um_na (by omega)]; exact h2 k hk, fun i k hk hi => by rw [um_na (by omega)]; exact h3 i k hk hi, by rw [um_fn (by omega)]; exact h30, by rw [um_fn (by omega)]; exact h32, fun a a1 a2 => by rw [um_fn (by omega)]; exact h4 a a1 a2⟩
  have z := h1.2.1
  unfold TrN
  rw [um_fn (show 28 + 16 + 2 * i ≠ a by omega)]
  exact h1.2.2.2.2 i hi
/-- one pair -/
theorem fill_one {p q : Nat} (hX : isX T) (hK : K ≤ 100) (nt : NtOk M1 28 K 0) (hv : WayIs M1 28 (M1 29 3).toNat (M1 29 2).toNat v) (hxy : x ≠ y) (hx : (x : Int) < M1 (28 + 4) 1) (hy : (y : Int) < M1 (28 + 4) 1) (hp : p < 7) (hq : q < 7) (h : PrOk M1 D x y K) (hd : D (28 + 16 + 2 * x) 4 = 10 * (p : Int)) : ∃ D', (∀ r, Rn S 110 43 ([], [some (vR 0), some (vI (x : Int)), some (vI (y : Int)), some (vI (p : Int)), some (vI ((q : Int) + 1))], T, D') r → Rn S 110 50 ([], [some (vR 0), some (vI (x : Int)), some (vI (y : Int)), some (vI (p : Int)), some (vI (q : Int))], T, D) r) ∧ PrOk M1 D' x y K ∧ D' (28 + 16 + 2 * x) 4 = 10 * (p : Int) ∧ (D' (61 + p) (q : Int) = cst M1 x y v x p q ∧ D' (69 + p) (q : Int) = cst M1 x y v y p q) ∧ (∀ p' q' : Nat, p' < 7 → (p' ≠ p ∨ q' ≠ q) → D' (61 + p') (q' : Int) = D (61 + p') (q' : Int) ∧ D' (69 + p') (q' : Int) = D (69 + p') (q' : Int)) := by
  have z4 := nt.2.1
  have x4 : x < 4 := by omega
  have y4 : y < 4 := by omega
  have hE := h.set (s := y) (w := 10 * (q : Int)) (Or.inr rfl) y4 (by omega)
  have eX : um D (28 + 16 + 2 * y) 4 (10 * (q : Int)) (28 + 16 + 2 * x) 4 = 10 * (p : Int) := by rw [um_na (by omega)]; exact hd
  have eY : um D (28 + 16 + 2 * y) 4 (10 * (q : Int)) (28 + 16 + 2 * y) 4 = 10 * (q : Int) := um_eq
  have eO : ∀ a, a ≠ 28 + 16 + 2 * y → um D (28 + 16 + 2 * y) 4 (10 * (q : Int)) a = D a := fun a ha => um_fn ha
  generalize hEE : um D (28 + 16 + 2 * y) 4 (10 * (q : Int)) = E at *
  obtain ⟨h1, h2, h3, h30, h32, h4⟩ := id hE
  have zE : E (28 + 4) 1 = M1 (28 + 4) 1 := by
    show E 32 1 = M1 32 1
    rw [h32]
  obtain ⟨D1, w1, w2, w3, w4, ⟨w5, w6, w7⟩, w8⟩ := whatif_c (S := S) (X := XP M1 x y p q) (v := v) hX.s2 hK (by omega) h1 (by rw [zE, XP_ne (by omega) (by omega)]) (by rw [XP_k (by decide)]; exact h2 5 (by decide)) (fun s hs k k0 k8 => by
    rw [zE] at hs
    by_cases ek : k = 4
    · subst ek
      by_cases es : s = x
      · subst es
        rw [XP_x hxy]
        exact eX
      · by_cases es2 : s = y
        · subst es2
          rw [XP_y]
          exact eY
        · rw [XP_ne (by omega) (by omega)]
          exact h3 s 4 (Or.inr ⟨es, es2⟩) (by omega)
    · rw [XP_k ek]
      exact h3 s k (Or.inl ek) (by omega)) (by
    rw [show E (28 + 1) 3 = M1 29 3 from h2 3 (by decide), show E (28 + 1) 2 = M1 29 2 from h2 2 (by decide), WayIs_cg (M := M1) (b := 28) (h2 0 (by decide)) (h2 1 (by decide)) (h2 4 (by decide)) h30]
    exact hv)
  have hD1 : PrOk M1 D1 x y K := by
    refine ⟨w2, fun k hk => ?_, fun s k hk hs => ?_, ?_, ?_, fun a a1 a2 => ?_⟩
    · rw [show D1 29 k = E 29 k from w4 k hk]
      exact h2 k hk
    · rw [w3 _ (by omega) (by omega) (by omega)]
      exact h3 s k hk hs
    · rw [w3 30 (by decide) (by decide) (by decide)]
      exact h30
    · rw [w3 32 (by decide) (by decide) (by decide)]
      exact h32
    · rw [w3 a (by omega) (by omega) (by omega)]
      exact h4 a a1 a2
  have c1 := w8 x D1 (by rw [zE]; exact hx) (fun _ _ _ => rfl)
  have c2 := w8 y (um D1 (61 + p) (q : Int) (cst M1 x y v x p q)) (by rw [zE]; exact hy) (fun a a1 a2 => um_fn (by omega))
  refine ⟨um (um D1 (61 + p) (q : Int) (cst M1 x y v x p q)) (69 + p) (q : Int) (cst M1 x y v y p q), fun r hr => ?_, (hD1.out (by omega)).out (by omega), ?_, ⟨?_, um_eq⟩, fun p' q' hp' hne => ?_⟩
  · rw [← hEE] at w1
    refine Rn.cal rfl (X_ald rfl <| X_gr 7 1 hX.ob ⟨rfl, rfl⟩ rfl rfl <| X_gr 6 1 hX.s2.st ⟨rfl, rfl⟩ rfl rfl <| X_gr 0 0 hX.s2.be ⟨rfl, rfl⟩ rfl rfl <| X_ild rfl <| X_aa hX.s2.sl (by decide) (by first | omega | (simp (disch := omega) only [um_eq, um_na, um_ni, Int.toNat_natCast]; omega)) (by first | omega | (simp (disch := omega) only [um_eq, um_na, um_ni, Int.toNat_natCast]; omega)) rfl (rSl_at (by omega)) <| X_gr 5 0 (hX.s2.se (by omega)) ⟨rfl, rfl⟩ rfl rfl <| X_i <| X_i <| X_ild rfl <| X_mul <| X_is (hX.s2.tr (by omega)) (by first | omega | (simp (disch := omega) only [um_eq, um_na, um_ni, Int.toNat_natCast]; omega)) (by first | omega | (simp (disch := omega) only [um_eq, um_na, um_ni, Int.toNat_natCast]; omega)) rfl <| X_ald rfl <| X_gr 7 1 hX.ob ⟨rfl, rfl⟩ rfl rfl <| X_nil) (vs := [_]) (rest := []) rfl rfl rfl (rcv_v hX.s2.st (by decide)) (w1) ?_
    refine Rn.cal rfl (X_ald rfl <| X_gr 7 5 hX.ob ⟨rfl, rfl⟩ rfl rfl <| X_ild rfl <| X_aa hX.c1 (by decide) (by first | omega | (simp (disch := omega) only [um_eq, um_na, um_ni, Int.toNat_natCast]; omega)) (by first | omega | (simp (disch := omega) only [um_eq, um_na, um_ni, Int.toNat_natCast]; omega)) rfl (rC1_at (by omega)) <| X_ild rfl <| X_ald rfl <| X_gr 7 1 hX.ob ⟨rfl, rfl⟩ rfl rfl <| X_ild rfl <| X_nil) (vs := [_, _]) (rest := [_, _]) rfl rfl rfl (rcv_v hX.s2.st (by decide)) (c1) ?_
    refine Rn.cal rfl (X_is (hX.r1 (by omega)) (by first | omega | (simp (disch := omega) only [um_eq, um_na, um_ni, Int.toNat_natCast]; omega)) (by first | omega | (simp (disch := omega) only [um_eq, um_na, um_ni, Int.toNat_natCast]; omega)) rfl <| X_ald rfl <| X_gr 7 6 hX.ob ⟨rfl, rfl⟩ rfl rfl <| X_ild rfl <| X_aa hX.c2 (by decide) (by first | omega | (simp (disch := omega) only [um_eq, um_na, um_ni, Int.toNat_natCast]; omega)) (by first | omega | (simp (disch := omega) only [um_eq, um_na, um_ni, Int.toNat_natCast]; omega)) rfl (rC2_at (by omega)) <| X_ild rfl <| X_ald rfl <| X_gr 7 1 hX.ob ⟨rfl, rfl⟩ rfl rfl <| X_ild rfl <| X_nil) (vs := [_, _]) (rest := [_, _]) rfl rfl rfl (rcv_v hX.s2.st (by decide)) (c2) ?_
    refine Rn.jto rfl (X_is (hX.r2 (by omega)) (by first | omega | (simp (disch := omega) only [um_eq, um_na, um_ni, Int.toNat_natCast]; omega)) (by first | omega | (simp (disch := omega) only [um_eq, um_na, um_ni, Int.toNat_natCast]; omega)) rfl <| X_inc rfl (L' := [_, _, _, _, _]) rfl <| X_nil) ?_
    exact hr
  · rw [um_na (by omega), um_na (by omega), w3 _ (by omega) (by omega) (by omega)]
    exact eX
  · rw [um_na (by omega), um_eq]
  · have e1 : D1 (61 + p') = D (61 + p') := by rw [w3 _ (by omega) (by omega) (by omega)]; exact eO _ (by omega)
    have e2 : D1 (69 + p') = D (69 + p') := by rw [w3 _ (by omega) (by omega) (by omega)]; exact eO _ (by omega)
    by_cases ep : p' = p
    · subst ep
      rw [um_na (by omega), um_ni (by omega), um_ni (by omega), um_na (by omega), e1, e2]
      exact ⟨rfl, rfl⟩
    · rw [um_na (by omega), um_na (by omega), um_na (by omega), um_na (by omega), e1, e2]
      exact ⟨rfl, rfl⟩
/-- all pairs, by the class -/
theorem c_fillC (g : Gl T M K) (hK : K ≤ 100) (c1 : Cl S 55 [vR 28, vR 1] (T, M) (none, (T, M1))) (nt : NtOk M1 28 K 0) (hc : CpSt M M1 1 28) (hv : WayIs M1 28 (M1 29 3).toNat (M1 29 2).toNat v) (hxy : x ≠ y) (hx : (x : Int) < M1 (28 + 4) 1) (hy : (y : Int) < M1 (28 + 4) 1) : ∃ D, Cl S 110 [vR 0, vI (x : Int), vI (y : Int)] (T, M) (none, (T, D)) ∧ (∀ p q : Nat, p < 7 → q < 7 → D (61 + p) (q : Int) = cst M1 x y v x p q ∧ D (69 + p) (q : Int) = cst M1 x y v y p q) ∧ (∀ a, a < 28 ∨ 55 ≤ a → ¬ (60 ≤ a ∧ a ≤ 75) → D a = M a) := by
  have hX := g.x
  have z4 := nt.2.1
  have x4 : x < 4 := by omega
  have inner : ∀ (k q p : Nat) (D : Nat → Int → Int), q + k = 7 → p < 7 → PrOk M1 D x y K → D (28 + 16 + 2 * x) 4 = 10 * (p : Int) → (∀ p' q' : Nat, p' < 7 → q' < 7 → (p' < p ∨ (p' = p ∧ q' < q)) → D (61 + p') (q' : Int) = cst M1 x y v x p' q' ∧ D (69 + p') (q' : Int) = cst M1 x y v y p' q') → ∃ D', (∀ r, Rn S 110 119 ([], [some (vR 0), some (vI (x : Int)), some (vI (y : Int)), some (vI (p : Int)), some (vI 7)], T, D') r → Rn S 110 43 ([], [some (vR 0), some (vI (x : Int)), some (vI (y : Int)), some (vI (p : Int)), some (vI (q : Int))], T, D) r) ∧ PrOk M1 D' x y K ∧ (∀ p' q' : Nat, p' < 7 → q' < 7 → p' < p + 1 → D' (61 + p') (q' : Int) = cst M1 x y v x p' q' ∧ D' (69 + p') (q' : Int) = cst M1 x y v y p' q') := by
    intro k
    induction k with
    | zero =>
      intro q p D hq hp h1 h2 h3
      have eq : q = 7 := by omega
      subst eq
      refine ⟨D, fun r hr => ?_, h1, fun p' q' a1 a2 a3 => h3 p' q' a1 a2 (by omega)⟩
      refine Rn.cge rfl (X_ild rfl <| X_i <| X_nil) (by first | omega | (simp (disch := omega) only [um_eq, um_na, um_ni, Int.toNat_natCast]; omega)) (by first | omega | (simp (disch := omega) only [um_eq, um_na, um_ni, Int.toNat_natCast]; omega)) (fun hc => ?_) (fun hc => absurd hc (by first | omega | decide | (simp (disch := omega) only [um_eq, um_na, um_ni, Int.toNat_natCast]; omega)))
      exact hr
    | succ k ih =>
      intro q p D hq hp h1 h2 h3
      obtain ⟨D1, f1, f2, f3, f4, f5⟩ := fill_one (S := S) (q := q) hX hK nt hv hxy hx hy hp (by omega) h1 h2
      obtain ⟨D', i1, i2, i3⟩ := ih (q + 1) p D1 (by omega) hp f2 f3 (fun p' q' a1 a2 a3 => by
        by_cases e : p' = p ∧ q' = q
        · obtain ⟨rfl, rfl⟩ := e
          exact f4
        · have := f5 p' q' a1 (by omega)
          rw [this.1, this.2]
          exact h3 p' q' a1 a2 (by omega))
      refine ⟨D', fun r hr => ?_, i2, i3⟩
      refine Rn.cge rfl (X_ild rfl <| X_i <| X_nil) (by first | omega | (simp (disch := omega) only [um_eq, um_na, um_ni, Int.toNat_natCast]; omega)) (by first | omega | (simp (disch := omega) only [um_eq, um_na, um_ni, Int.toNat_natCast]; omega)) (fun hc => absurd hc (by first | omega | decide | (simp (disch := omega) only [um_eq, um_na, um_ni, Int.toNat_natCast]; omega))) (fun hc => ?_)
      exact f1 r (i1 r hr)
  have outer : ∀ (k p : Nat) (D : Nat → Int → Int) (z : Option AV), p + k = 7 → PrOk M1 D x y K → (∀ p' q' : Nat, p' < 7 → q' < 7 → p' < p → D (61 + p') (q' : Int) = cst M1 x y v x p' q' ∧ D (69 + p') (q' : Int) = cst M1 x y v y p' q') → ∃ D', Rn S 110 13 ([], [some (vR 0), some (vI (x : Int)), some (vI (y : Int)), some (vI (p : Int)), z], T, D) (none, (T, D')) ∧ PrOk M1 D' x y K ∧ (∀ p' q' : Nat, p' < 7 → q' < 7 → D' (61 + p') (q' : Int) = cst M1 x y v x p' q' ∧ D' (69 + p') (q' : Int) = cst M1 x y v y p' q') := by
    intro k
    induction k with
    | zero =>
      intro p D z hp h1 h2
      have ep : p = 7 := by omega
      subst ep
      refine ⟨D, ?_, h1, fun p' q' a1 a2 => h2 p' q' a1 a2 (by omega)⟩
      refine Rn.cge rfl (X_ild rfl <| X_i <| X_nil) (by first | omega | (simp (disch := omega) only [um_eq, um_na, um_ni, Int.toNat_natCast]; omega)) (by first | omega | (simp (disch := omega) only [um_eq, um_na, um_ni, Int.toNat_natCast]; omega)) (fun hc => ?_) (fun hc => absurd hc (by first | omega | decide | (simp (disch := omega) only [um_eq, um_na, um_ni, Int.toNat_natCast]; omega)))
      refine Rn.rv rfl (X_nil) rfl
    | succ k ih =>
      intro p D z hp h1 h2
      obtain ⟨D1, f1, f2, f3⟩ := inner 7 0 p (um D (28 + 16 + 2 * x) 4 (10 * (p : Int))) (by omega) (by omega) (h1.set (Or.inl rfl) x4 (by omega)) um_eq (fun p' q' a1 a2 a3 => by
        rw [um_na (by omega), um_na (by omega)]
        exact h2 p' q' a1 a2 (by omega))
      obtain ⟨D', i1, i2, i3⟩ := ih (p + 1) D1 (some (vI 7)) (by omega) f2 f3
      refine ⟨D', ?_, i2, i3⟩
      refine Rn.cge rfl (X_ild rfl <| X_i <| X_nil) (by first | omega | (simp (disch := omega) only [um_eq, um_na, um_ni, Int.toNat_natCast]; omega)) (by first | omega | (simp (disch := omega) only [um_eq, um_na, um_ni, Int.toNat_natCast]; omega)) (fun hc => absurd hc (by first | omega | decide | (simp (disch := omega) only [um_eq, um_na, um_ni, Int.toNat_natCast]; omega))) (fun hc => ?_)
      refine Rn.fal rfl (X_ald rfl <| X_gr 7 1 hX.ob ⟨rfl, rfl⟩ rfl rfl <| X_gr 6 1 hX.s2.st ⟨rfl, rfl⟩ rfl rfl <| X_gr 0 0 hX.s2.be ⟨rfl, rfl⟩ rfl rfl <| X_ild rfl <| X_aa hX.s2.sl (by decide) (by first | omega | (simp (disch := omega) only [um_eq, um_na, um_ni, Int.toNat_natCast]; omega)) (by first | omega | (simp (disch := omega) only [um_eq, um_na, um_ni, Int.toNat_natCast]; omega)) rfl (rSl_at (by omega)) <| X_gr 5 0 (hX.s2.se (by omega)) ⟨rfl, rfl⟩ rfl rfl <| X_i <| X_i <| X_ild rfl <| X_mul <| X_is (hX.s2.tr (by omega)) (by first | omega | (simp (disch := omega) only [um_eq, um_na, um_ni, Int.toNat_natCast]; omega)) (by first | omega | (simp (disch := omega) only [um_eq, um_na, um_ni, Int.toNat_natCast]; omega)) rfl <| X_i <| X_ist rfl (L' := [_, _, _, _, _]) rfl <| X_nil) ?_
      refine f1 _ ?_
      refine Rn.jto rfl (X_inc rfl (L' := [_, _, _, _, _]) rfl <| X_nil) ?_
      exact i1
  obtain ⟨D, o1, o2, o3⟩ := outer 7 0 M1 none (by omega) ⟨nt, fun _ _ => rfl, fun _ _ _ _ => rfl, rfl, rfl, fun _ _ _ => rfl⟩ (fun p' q' a1 a2 a3 => by omega)
  refine ⟨D, ⟨_, rfl, ?_⟩, o3, fun a a1 a2 => ?_⟩
  · refine Rn.cal rfl (X_ald rfl <| X_gr 7 1 hX.ob ⟨rfl, rfl⟩ rfl rfl <| X_ald rfl <| X_gr 7 0 hX.ob ⟨rfl, rfl⟩ rfl rfl <| X_nil) (vs := [_, _]) (rest := []) rfl rfl rfl (rcv_v hX.s2.st (by decide)) (c1) ?_
    refine Rn.fal rfl (X_i <| X_ist rfl (L' := [_, _, _, _, _]) rfl <| X_nil) ?_
    exact o1
  · rw [o2.2.2.2.2.2 a a1 a2]
    exact hc.2.2.2.2.2.2.2 a a1
/-- all pairs, by the model -/
theorem c_layCosts (g : Gl T M K) (hK : K ≤ 100) (nt : NtOk M1 28 K 0) (hc : CpSt M M1 1 28) (hw : ∀ v, WayIs M1 28 (M1 29 3).toNat (M1 29 2).toNat v → WayIs M 1 (M 2 3).toNat (M 2 2).toNat v) (hv : WayIs M1 28 (M1 29 3).toNat (M1 29 2).toNat v) (hxy : x ≠ y) (hx : (x : Int) < M1 (28 + 4) 1) (hy : (y : Int) < M1 (28 + 4) 1) (df : ∀ a, a < 28 ∨ 55 ≤ a → ¬ (60 ≤ a ∧ a ≤ 75) → D a = M a) : ∃ N, Cl S 173 [vR 76, vI (x : Int), vI (y : Int)] (T, D) (none, (T, N)) ∧ (∀ k : Nat, k < 49 → N 86 (k : Int) = cst M1 x y v x (k / 7) (k % 7) ∧ N 87 (k : Int) = cst M1 x y v y (k / 7) (k % 7)) ∧ (∀ k, ¬ (17 ≤ k ∧ k ≤ 21) → N 76 k = M 76 k) ∧ (∀ a, a < 28 ∨ 55 ≤ a → ¬ (60 ≤ a ∧ a ≤ 76) → ¬ (81 ≤ a ∧ a ≤ 87) → N a = M a) := by
  have hM := g.m
  have hz := g.sz
  have z1 : M1 (28 + 4) 1 = M 5 1 := hc.2.2.1.1
  have f5 := nt.1.1.2.2.2.2.2.1
  have d77 : D 77 = M 77 := df 77 (by omega) (by omega)
  obtain ⟨M2, cl, ls, lw, lc, l76, lf⟩ := lay_of (S := S) (N := D) g d77
  have m77 : M2 77 = M 77 := by rw [lf 77 (by decide) (by decide) (by decide) (by decide) (by decide)]; exact d77
  obtain ⟨E, e0, eP, eR⟩ := seq_of (P := fun k N => (∀ j, j ≠ 75 + (x : Int) → j ≠ 75 + (y : Int) → N 77 j = M 77 j) ∧ (N 82 = M2 82 ∧ N 83 = M2 83 ∧ N 84 = M2 84) ∧ (N 76 17 = v ∧ N 76 18 = M 2 5) ∧ (∀ k, ¬ (17 ≤ k ∧ k ≤ 21) → N 76 k = M 76 k) ∧ (∀ a, a < 28 ∨ 55 ≤ a → ¬ (60 ≤ a ∧ a ≤ 77) → ¬ (81 ≤ a ∧ a ≤ 87) → N a = M a) ∧ (∀ l : Nat, l < k → N 86 (l : Int) = cst M1 x y v x (l / 7) (l % 7) ∧ N 87 (l : Int) = cst M1 x y v y (l / 7) (l % 7))) (R := fun k N N' => ∀ w z r, Rn S 173 28 ([], [some (vR 76), some (vI (x : Int)), some (vI (y : Int)), some (vI w), some (vI z), some (vI ((k : Int) + 1))], T, N') r → Rn S 173 35 ([], [some (vR 76), some (vI (x : Int)), some (vI (y : Int)), some (vI w), some (vI z), some (vI (k : Int))], T, N) r) (c := M2) ⟨fun k _ _ => by rw [m77], ⟨rfl, rfl, rfl⟩, ⟨lw v (hw v hv), lc⟩, fun k hk => by rw [l76 k (by omega) (by omega), df 76 (by omega) (by omega)], fun a a1 a2 a3 => by rw [lf a (by omega) (by omega) (by omega) (by omega) (by omega)]; exact df a a1 (by omega), fun l hl => by omega⟩ 49 (fun k N hk hN => by
    obtain ⟨n1, ⟨n82, n83, n84⟩, ⟨n17, n18⟩, n5, n6, n7⟩ := hN
    have edv : (k : Int) / 7 = ((k / 7 : Nat) : Int) := by omega
    have emd : (k : Int) % 7 = ((k % 7 : Nat) : Int) := by omega
    have p7 : k / 7 < 7 := by omega
    have q7 : k % 7 < 7 := by omega
    have i86 : (k : Int) < 49 := by omega
    generalize hpp : k / 7 = p at *
    generalize hqq : k % 7 = q at *
    generalize hU : um (um N 77 (75 + (x : Int)) (10 * (p : Int))) 77 (75 + (y : Int)) (10 * (q : Int)) = U
    have ue : ∀ a, a ≠ 77 → U a = N a := fun a ha => by rw [← hU, um_fn ha, um_fn ha]
    have uj : ∀ j, j ≠ 75 + (x : Int) → j ≠ 75 + (y : Int) → U 77 j = N 77 j := fun j j1 j2 => by rw [← hU, um_ni j2, um_ni j1]
    have ux : U 77 (75 + (x : Int)) = 10 * (p : Int) := by rw [← hU, um_ni (by omega), um_eq]
    have uy : U 77 (75 + (y : Int)) = 10 * (q : Int) := by rw [← hU, um_eq]
    obtain ⟨w1, w2, w3⟩ := whatif_m (S := S) (T := T) (b := 28) (z := (M 5 1).toNat) (X := XP M1 x y p q) (N := U) (v := v) hM (by omega) (by rw [XP_ne (by omega) (by omega), z1]; omega) (fun s hs => (XP_tr nt hxy p7 q7 (by omega)).ok hK (by omega)) (by rw [XP_k (by decide)]; exact f5) (by rw [uj 6 (by omega) (by omega), n1 6 (by omega) (by omega), hz.1]; omega) (fun s hs k k0 k8 => by
      have l := ls s hs k k0 k8
      have c := hc.2.2.2.1 s (by omega) k k0 k8
      rw [← c] at l
      by_cases ek : k = 4
      · subst ek
        rw [V_4]
        by_cases es : s = x
        · subst es
          rw [XP_x hxy]
          exact ux
        · by_cases es2 : s = y
          · subst es2
            rw [XP_y]
            exact uy
          · rw [XP_ne (by omega) (by omega), ← l, V_4, m77, uj _ (by omega) (by omega)]
            exact n1 _ (by omega) (by omega)
      · rw [XP_k ek, ← l]
        rcases (show k < 4 ∨ k = 5 ∨ k = 6 ∨ k = 7 by omega) with hk | rfl | rfl | rfl
        · rw [V_k s k (by omega), V_k s k (by omega), m77, uj _ (by omega) (by omega)]
          exact n1 _ (by omega) (by omega)
        · rw [V_5, V_5, ue 82 (by decide), n82]
        · rw [V_6, V_6, ue 83 (by decide), n83]
        · rw [V_7, V_7, ue 84 (by decide), n84]) (by rw [ue 76 (by decide)]; exact n17) (by
      rw [ue 76 (by decide), n18, XP_k (by decide)]
      exact hc.1.2.2.2.2.2.1.symm)
    generalize hG : setG U (nightV (XP M1 x y p q) 28) = G at *
    have k1 := w2 x G (by omega) (fun _ _ => rfl)
    have k2 := w2 y (um G 86 (k : Int) (cst M1 x y v x p q)) (by omega) (fun a ha => um_fn (by omega))
    have ge : ∀ a, a ≠ 76 → G a = U a := fun a ha => by rw [← hG]; exact setG_ne ha
    have g76 : ∀ j, j ≠ 19 → j ≠ 20 → j ≠ 21 → G 76 j = N 76 j := fun j j1 j2 j3 => by rw [← hG, setG_k j1 j2 j3, ue 76 (by decide)]
    refine ⟨um (um G 86 (k : Int) (cst M1 x y v x p q)) 87 (k : Int) (cst M1 x y v y p q), ⟨fun j j1 j2 => ?_, ⟨?_, ?_, ?_⟩, ⟨?_, ?_⟩, fun j hj => ?_, fun a a1 a2 a3 => ?_, fun l hl => ?_⟩, fun w z r hr => ?_⟩
    · rw [um_na (by decide), um_na (by decide), ge 77 (by decide), uj j j1 j2]
      exact n1 j j1 j2
    · rw [um_fn (by decide), um_fn (by decide), ge 82 (by decide), ue 82 (by decide)]; exact n82
    · rw [um_fn (by decide), um_fn (by decide), ge 83 (by decide), ue 83 (by decide)]; exact n83
    · rw [um_fn (by decide), um_fn (by decide), ge 84 (by decide), ue 84 (by decide)]; exact n84
    · rw [um_na (by decide), um_na (by decide), g76 _ (by decide) (by decide) (by decide)]; exact n17
    · rw [um_na (by decide), um_na (by decide), g76 _ (by decide) (by decide) (by decide)]; exact n18
    · rw [um_na (by decide), um_na (by decide), g76 _ (by omega) (by omega) (by omega)]; exact n5 j hj
    · rw [um_fn (by omega), um_fn (by omega), ge a (by omega), ue a (by omega)]; exact n6 a a1 a2 a3
    · by_cases el : l = k
      · subst el
        rw [um_na (by decide), um_eq, um_eq, hpp, hqq]
        exact ⟨rfl, rfl⟩
      · have := n7 l (by omega)
        rw [um_na (by decide), um_ni (by omega), um_ni (by omega), um_na (by decide), ge 86 (by decide), ge 87 (by decide), ue 86 (by decide), ue 87 (by decide)]
        exact this
    · rw [← hU] at w1
      refine Rn.cal rfl (X_ald rfl <| X_gr 8 0 hM.ob ⟨rfl, rfl⟩ rfl rfl <| X_i <| X_ild rfl <| X_add <| X_i <| X_ild rfl <| X_i <| X_div (by first | omega | (simp (disch := omega) only [um_eq, um_na, um_ni, Int.toNat_natCast]; omega)) (by first | omega | (simp (disch := omega) only [um_eq, um_na, um_ni, Int.toNat_natCast]; omega)) <| X_mul <| X_is hM.w (by first | omega | (simp (disch := omega) only [um_eq, um_na, um_ni, Int.toNat_natCast]; omega)) (by first | omega | (simp (disch := omega) only [um_eq, um_na, um_ni, Int.toNat_natCast]; omega)) rfl <| X_ald rfl <| X_gr 8 0 hM.ob ⟨rfl, rfl⟩ rfl rfl <| X_i <| X_ild rfl <| X_add <| X_i <| X_ild rfl <| X_i <| X_rem (by first | omega | (simp (disch := omega) only [um_eq, um_na, um_ni, Int.toNat_natCast]; omega)) (by first | omega | (simp (disch := omega) only [um_eq, um_na, um_ni, Int.toNat_natCast]; omega)) <| X_mul <| X_is hM.w (by first | omega | (simp (disch := omega) only [um_eq, um_na, um_ni, Int.toNat_natCast]; omega)) (by first | omega | (simp (disch := omega) only [um_eq, um_na, um_ni, Int.toNat_natCast]; omega)) rfl <| X_ald rfl <| X_nil) (vs := [_]) (rest := []) rfl rfl rfl (rcv_v hM.ob (by decide)) ((by rw [edv, emd]; exact w1)) ?_
      refine Rn.cal rfl (X_ald rfl <| X_gr 8 23 hM.ob ⟨rfl, rfl⟩ rfl rfl <| X_ild rfl <| X_ald rfl <| X_ild rfl <| X_nil) (vs := [_, _]) (rest := [_, _]) rfl rfl rfl (rcv_v hM.ob (by decide)) (k1) ?_
      refine Rn.cal rfl (X_is hM.c1 (by first | omega | (simp (disch := omega) only [um_eq, um_na, um_ni, Int.toNat_natCast]; omega)) (by first | omega | (simp (disch := omega) only [um_eq, um_na, um_ni, Int.toNat_natCast]; omega)) rfl <| X_ald rfl <| X_gr 8 24 hM.ob ⟨rfl, rfl⟩ rfl rfl <| X_ild rfl <| X_ald rfl <| X_ild rfl <| X_nil) (vs := [_, _]) (rest := [_, _]) rfl rfl rfl (rcv_v hM.ob (by decide)) (k2) ?_
      refine Rn.jto rfl (X_is hM.c2 (by first | omega | (simp (disch := omega) only [um_eq, um_na, um_ni, Int.toNat_natCast]; omega)) (by first | omega | (simp (disch := omega) only [um_eq, um_na, um_ni, Int.toNat_natCast]; omega)) rfl <| X_inc rfl (L' := [_, _, _, _, _, _]) rfl <| X_nil) ?_
      exact hr)
  have mloop : ∀ (d k : Nat) (w z : Int), k + d = 49 → Rn S 173 28 ([], [some (vR 76), some (vI (x : Int)), some (vI (y : Int)), some (vI w), some (vI z), some (vI (k : Int))], T, E k) (none, (T, um (um (E 49) 77 (75 + (x : Int)) w) 77 (75 + (y : Int)) z)) := by
    intro d
    induction d with
    | zero =>
      intro k w z hk
      have ek : k = 49 := by omega
      subst ek
      refine Rn.cge rfl (X_ild rfl <| X_i <| X_nil) (by first | omega | (simp (disch := omega) only [um_eq, um_na, um_ni, Int.toNat_natCast]; omega)) (by first | omega | (simp (disch := omega) only [um_eq, um_na, um_ni, Int.toNat_natCast]; omega)) (fun hc => ?_) (fun hc => absurd hc (by first | omega | decide | (simp (disch := omega) only [um_eq, um_na, um_ni, Int.toNat_natCast]; omega)))
      refine Rn.rv rfl (X_ald rfl <| X_gr 8 0 hM.ob ⟨rfl, rfl⟩ rfl rfl <| X_i <| X_ild rfl <| X_add <| X_ild rfl <| X_is hM.w (by first | omega | (simp (disch := omega) only [um_eq, um_na, um_ni, Int.toNat_natCast]; omega)) (by first | omega | (simp (disch := omega) only [um_eq, um_na, um_ni, Int.toNat_natCast]; omega)) rfl <| X_ald rfl <| X_gr 8 0 hM.ob ⟨rfl, rfl⟩ rfl rfl <| X_i <| X_ild rfl <| X_add <| X_ild rfl <| X_is hM.w (by first | omega | (simp (disch := omega) only [um_eq, um_na, um_ni, Int.toNat_natCast]; omega)) (by first | omega | (simp (disch := omega) only [um_eq, um_na, um_ni, Int.toNat_natCast]; omega)) rfl <| X_nil) rfl
    | succ d ih =>
      intro k w z hk
      have nx := ih (k + 1) w z (by omega)
      have st := eR k (by omega) _ _ _ nx
      refine Rn.cge rfl (X_ild rfl <| X_i <| X_nil) (by first | omega | (simp (disch := omega) only [um_eq, um_na, um_ni, Int.toNat_natCast]; omega)) (by first | omega | (simp (disch := omega) only [um_eq, um_na, um_ni, Int.toNat_natCast]; omega)) (fun hc => absurd hc (by first | omega | decide | (simp (disch := omega) only [um_eq, um_na, um_ni, Int.toNat_natCast]; omega))) (fun hc => ?_)
      exact st
  obtain ⟨n1, ⟨n82, n83, n84⟩, ⟨n17, n18⟩, n5, n6, n7⟩ := eP 49 (Nat.le_refl _)
  refine ⟨um (um (E 49) 77 (75 + (x : Int)) (M 77 (75 + (x : Int)))) 77 (75 + (y : Int)) (M 77 (75 + (y : Int))), ⟨_, rfl, ?_⟩, fun k hk => ?_, fun k hk => ?_, fun a a1 a2 a3 => ?_⟩
  · have l0 := mloop 49 0 (M 77 (75 + (x : Int))) (M 77 (75 + (y : Int))) (by omega)
    rw [e0] at l0
    refine Rn.cal rfl (X_ald rfl <| X_nil) (vs := [_]) (rest := []) rfl rfl rfl (rcv_v hM.ob (by decide)) (cl) ?_
    refine Rn.fal rfl (X_ald rfl <| X_gr 8 0 hM.ob ⟨rfl, rfl⟩ rfl rfl <| X_i <| X_ild rfl <| X_add <| X_ia hM.w (by first | omega | (simp (disch := omega) only [um_eq, um_na, um_ni, Int.toNat_natCast]; omega)) (by first | omega | (simp (disch := omega) only [um_eq, um_na, um_ni, Int.toNat_natCast]; omega)) rfl <| X_ist rfl (L' := [_, _, _, _, _, _]) rfl <| X_ald rfl <| X_gr 8 0 hM.ob ⟨rfl, rfl⟩ rfl rfl <| X_i <| X_ild rfl <| X_add <| X_ia hM.w (by first | omega | (simp (disch := omega) only [um_eq, um_na, um_ni, Int.toNat_natCast]; omega)) (by first | omega | (simp (disch := omega) only [um_eq, um_na, um_ni, Int.toNat_natCast]; omega)) rfl <| X_ist rfl (L' := [_, _, _, _, _, _]) rfl <| X_i <| X_ist rfl (L' := [_, _, _, _, _, _]) rfl <| X_nil) ?_
    rw [m77]
    exact l0
  · rw [um_na (by decide), um_na (by decide), um_na (by decide), um_na (by decide)]
    exact n7 k hk
  · rw [um_na (by decide), um_na (by decide)]
    exact n5 k hk
  · by_cases ea : a = 77
    · subst ea
      funext j
      by_cases e1 : j = 75 + (y : Int)
      · subst e1
        exact um_eq
      · rw [um_ni e1]
        by_cases e2 : j = 75 + (x : Int)
        · subst e2
          exact um_eq
        · rw [um_ni e2]
          exact n1 j e2 e1
    · rw [um_fn ea, um_fn ea]
      exact n6 a a1 (by omega) a3
end Costs
