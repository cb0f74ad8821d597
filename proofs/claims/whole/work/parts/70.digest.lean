/-! DIGEST -/
section Digest
variable {S : List Int} {T : List Sh} {M M1 N C : Nat → Int → Int} {K b : Nat} {x y G : Int} {h : Hp}
def mxI (f : Nat → Int) (h : Int) : Nat → Int
  | 0 => h
  | n + 1 => 31 * mxI f h n + f n
def mxS (f : Nat → Nat → Int) (h : Int) : Nat → Int
  | 0 => h
  | s + 1 => mxI (f s) (mxS f h s) 8
def mxN (u n : Nat → Int) (h : Int) : Nat → Int
  | 0 => h
  | i + 1 => 31 * (31 * mxN u n h i + u i) + n i
theorem um_um {a : Nat} {i u v : Int} : um (um M a i u) a i v = um M a i v := by
  funext c k
  by_cases h : c = a ∧ k = i
  · obtain ⟨rfl, rfl⟩ := h
    rw [um_eq, um_eq]
  · by_cases h1 : c = a
    · have h2 : k ≠ i := fun q => h ⟨h1, q⟩
      rw [um_ni h2, um_ni h2, um_ni h2]
    · rw [um_na h1, um_na h1, um_na h1]
theorem c_fmix {z : Nat} {a : Int} (hS : isSt T b) (hw : C (b + 1) 0 * C (b + 1) 1 = (z : Int)) (hz : z ≤ 49) (h0 : 0 ≤ C (b + 1) 0 ∧ C (b + 1) 0 ≤ 7) (h1 : 0 ≤ C (b + 1) 1 ∧ C (b + 1) 1 ≤ 7) (ht : ∀ i : Nat, i < z → I32 (C (b + 2) (i : Int))) : Cl S 27 [vR (b + 1), vL a] (T, C) (some (vL (mxI (fun i => C (b + 2) (i : Int)) a z)), (T, C)) := by
  have loop : ∀ (k i : Nat), i + k = z → Rn S 27 5 ([], [some (vR (b + 1)), some (vL a), none, some (vL (mxI (fun i => C (b + 2) (i : Int)) a i)), none, some (vI (i : Int))], T, C) (some (vL (mxI (fun i => C (b + 2) (i : Int)) a z)), (T, C)) := by
    intro k
    induction k with
    | zero =>
      intro i hi
      have ei : i = z := by omega
      subst ei
      refine Rn.cge rfl (X_ild rfl <| X_ald rfl <| X_gi 1 0 0 hS.fl ⟨rfl, rfl, rfl⟩ (Or.inl rfl) <| X_ald rfl <| X_gi 1 1 1 hS.fl ⟨rfl, rfl, rfl⟩ (Or.inl rfl) <| X_mul <| X_nil) (by first | omega | (simp (disch := omega) only [um_eq, um_na, um_ni, Int.toNat_natCast]; omega)) (by first | omega | (simp (disch := omega) only [um_eq, um_na, um_ni, Int.toNat_natCast]; omega)) (fun hc => ?_) (fun hc => absurd hc (by first | omega | decide | (simp (disch := omega) only [um_eq, um_na, um_ni, Int.toNat_natCast]; omega)))
      refine Rn.rl rfl (X_lld rfl <| X_nil) rfl
    | succ k ih =>
      intro i hi
      have nx := ih (i + 1) (by omega)
      have t := ht i (by omega)
      refine Rn.cge rfl (X_ild rfl <| X_ald rfl <| X_gi 1 0 0 hS.fl ⟨rfl, rfl, rfl⟩ (Or.inl rfl) <| X_ald rfl <| X_gi 1 1 1 hS.fl ⟨rfl, rfl, rfl⟩ (Or.inl rfl) <| X_mul <| X_nil) (by first | omega | (simp (disch := omega) only [um_eq, um_na, um_ni, Int.toNat_natCast]; omega)) (by first | omega | (simp (disch := omega) only [um_eq, um_na, um_ni, Int.toNat_natCast]; omega)) (fun hc => absurd hc (by first | omega | decide | (simp (disch := omega) only [um_eq, um_na, um_ni, Int.toNat_natCast]; omega))) (fun hc => ?_)
      refine Rn.jto rfl (X_l <| X_lld rfl <| X_lmu <| X_ald rfl <| X_gr 1 6 hS.fl ⟨rfl, rfl⟩ rfl rfl <| X_ild rfl <| X_ia hS.th (by first | omega | (simp (disch := omega) only [um_eq, um_na, um_ni, Int.toNat_natCast]; omega)) (by first | omega | (simp (disch := omega) only [um_eq, um_na, um_ni, Int.toNat_natCast]; omega)) rfl <| X_i2l (by first | omega | (simp (disch := omega) only [um_eq, um_na, um_ni, Int.toNat_natCast]; omega)) <| X_lad <| X_lst rfl (L' := [_, _, _, _, _, _]) rfl <| X_inc rfl (L' := [_, _, _, _, _, _]) rfl <| X_nil) ?_
      exact nx
  refine ⟨_, rfl, ?_⟩
  refine Rn.fal rfl (X_lld rfl <| X_lst rfl (L' := [_, _, _, _, _, _]) rfl <| X_i <| X_ist rfl (L' := [_, _, _, _, _, _]) rfl <| X_nil) ?_
  exact loop z 0 (by omega)
theorem c_bmix {z : Nat} {a : Int} (hS : isSt T b) (hw : C (b + 4) 1 = (z : Int)) (hz : z ≤ 4) (ht : ∀ s : Nat, s < z → TrOk C (b + 16 + 2 * s)) : Cl S 12 [vR (b + 4), vL a] (T, C) (some (vL (mxS (fun s k => C (b + 16 + 2 * s) (k : Int)) a z)), (T, C)) := by
  have inner : ∀ (k i s : Nat) r, i + k = 8 → s < z → Rn S 12 51 ([], [some (vR (b + 4)), some (vL a), none, some (vL (mxI (fun k => C (b + 16 + 2 * s) (k : Int)) (mxS (fun s k => C (b + 16 + 2 * s) (k : Int)) a s) 8)), none, some (vI (s : Int)), some (vI 8)], T, C) r → Rn S 12 17 ([], [some (vR (b + 4)), some (vL a), none, some (vL (mxI (fun k => C (b + 16 + 2 * s) (k : Int)) (mxS (fun s k => C (b + 16 + 2 * s) (k : Int)) a s) i)), none, some (vI (s : Int)), some (vI (i : Int))], T, C) r := by
    intro k
    induction k with
    | zero =>
      intro i s r hi hs hr
      have ei : i = 8 := by omega
      subst ei
      refine Rn.cge rfl (X_ild rfl <| X_i <| X_nil) (by first | omega | (simp (disch := omega) only [um_eq, um_na, um_ni, Int.toNat_natCast]; omega)) (by first | omega | (simp (disch := omega) only [um_eq, um_na, um_ni, Int.toNat_natCast]; omega)) (fun hc => ?_) (fun hc => absurd hc (by first | omega | decide | (simp (disch := omega) only [um_eq, um_na, um_ni, Int.toNat_natCast]; omega)))
      exact hr
    | succ k ih =>
      intro i s r hi hs hr
      have nx := ih (i + 1) s r (by omega) hs hr
      have s4 : s < 4 := by omega
      obtain ⟨t0, t1, t2, t3, t4, t5, t6, t7⟩ := ht s hs
      have t : I32 (C (b + 16 + 2 * s) (i : Int)) := by
        rcases (show i = 0 ∨ i = 1 ∨ i = 2 ∨ i = 3 ∨ i = 4 ∨ i = 5 ∨ i = 6 ∨ i = 7 by omega) with rfl | rfl | rfl | rfl | rfl | rfl | rfl | rfl
        · show I32 (C (b + 16 + 2 * s) 0); omega
        · show I32 (C (b + 16 + 2 * s) 1); omega
        · show I32 (C (b + 16 + 2 * s) 2); omega
        · show I32 (C (b + 16 + 2 * s) 3); omega
        · show I32 (C (b + 16 + 2 * s) 4); omega
        · show I32 (C (b + 16 + 2 * s) 5); omega
        · show I32 (C (b + 16 + 2 * s) 6); omega
        · show I32 (C (b + 16 + 2 * s) 7); omega
      refine Rn.cge rfl (X_ild rfl <| X_i <| X_nil) (by first | omega | (simp (disch := omega) only [um_eq, um_na, um_ni, Int.toNat_natCast]; omega)) (by first | omega | (simp (disch := omega) only [um_eq, um_na, um_ni, Int.toNat_natCast]; omega)) (fun hc => absurd hc (by first | omega | decide | (simp (disch := omega) only [um_eq, um_na, um_ni, Int.toNat_natCast]; omega))) (fun hc => ?_)
      refine Rn.jto rfl (X_l <| X_lld rfl <| X_lmu <| X_ald rfl <| X_gr 0 0 hS.be ⟨rfl, rfl⟩ rfl rfl <| X_ild rfl <| X_aa hS.sl (by decide) (by first | omega | (simp (disch := omega) only [um_eq, um_na, um_ni, Int.toNat_natCast]; omega)) (by first | omega | (simp (disch := omega) only [um_eq, um_na, um_ni, Int.toNat_natCast]; omega)) rfl (rSl_at (by omega)) <| X_gr 5 0 (hS.se (by omega)) ⟨rfl, rfl⟩ rfl rfl <| X_ild rfl <| X_ia (hS.tr (by omega)) (by first | omega | (simp (disch := omega) only [um_eq, um_na, um_ni, Int.toNat_natCast]; omega)) (by first | omega | (simp (disch := omega) only [um_eq, um_na, um_ni, Int.toNat_natCast]; omega)) rfl <| X_i2l (by first | omega | (simp (disch := omega) only [um_eq, um_na, um_ni, Int.toNat_natCast]; omega)) <| X_lad <| X_lst rfl (L' := [_, _, _, _, _, _, _]) rfl <| X_inc rfl (L' := [_, _, _, _, _, _, _]) rfl <| X_nil) ?_
      exact nx
  have loop : ∀ (k s : Nat) (w : Option AV), s + k = z → Rn S 12 5 ([], [some (vR (b + 4)), some (vL a), none, some (vL (mxS (fun s k => C (b + 16 + 2 * s) (k : Int)) a s)), none, some (vI (s : Int)), w], T, C) (some (vL (mxS (fun s k => C (b + 16 + 2 * s) (k : Int)) a z)), (T, C)) := by
    intro k
    induction k with
    | zero =>
      intro s w hs
      have es : s = z := by omega
      subst es
      refine Rn.cge rfl (X_ild rfl <| X_ald rfl <| X_gi 0 1 1 hS.be ⟨rfl, rfl, rfl⟩ (Or.inl rfl) <| X_nil) (by first | omega | (simp (disch := omega) only [um_eq, um_na, um_ni, Int.toNat_natCast]; omega)) (by first | omega | (simp (disch := omega) only [um_eq, um_na, um_ni, Int.toNat_natCast]; omega)) (fun hc => ?_) (fun hc => absurd hc (by first | omega | decide | (simp (disch := omega) only [um_eq, um_na, um_ni, Int.toNat_natCast]; omega)))
      refine Rn.rl rfl (X_lld rfl <| X_nil) rfl
    | succ k ih =>
      intro s w hs
      have nx := ih (s + 1) (some (vI 8)) (by omega)
      refine Rn.cge rfl (X_ild rfl <| X_ald rfl <| X_gi 0 1 1 hS.be ⟨rfl, rfl, rfl⟩ (Or.inl rfl) <| X_nil) (by first | omega | (simp (disch := omega) only [um_eq, um_na, um_ni, Int.toNat_natCast]; omega)) (by first | omega | (simp (disch := omega) only [um_eq, um_na, um_ni, Int.toNat_natCast]; omega)) (fun hc => absurd hc (by first | omega | decide | (simp (disch := omega) only [um_eq, um_na, um_ni, Int.toNat_natCast]; omega))) (fun hc => ?_)
      refine Rn.fal rfl (X_i <| X_ist rfl (L' := [_, _, _, _, _, _, _]) rfl <| X_nil) ?_
      refine inner 8 0 s _ (by omega) (by omega) ?_
      refine Rn.jto rfl (X_inc rfl (L' := [_, _, _, _, _, _, _]) rfl <| X_nil) ?_
      exact nx
  refine ⟨_, rfl, ?_⟩
  refine Rn.fal rfl (X_lld rfl <| X_lst rfl (L' := [_, _, _, _, _, _, _]) rfl <| X_i <| X_ist rfl (L' := [_, _, _, _, _, _, _]) rfl <| X_nil) ?_
  exact loop z 0 none (by omega)
theorem c_nmix {z : Nat} {a : Int} (hS : isSt T b) (hw : C (b + 23) 0 = (z : Int)) (hz : z ≤ 8) (ht : ∀ i : Nat, i < z → I32 (C (b + 24) (i : Int)) ∧ I32 (C (b + 25) (i : Int))) : Cl S 35 [vR (b + 23), vL a] (T, C) (some (vL (mxN (fun i => C (b + 24) (i : Int)) (fun i => C (b + 25) (i : Int)) a z)), (T, C)) := by
  have loop : ∀ (k i : Nat), i + k = z → Rn S 35 5 ([], [some (vR (b + 23)), some (vL a), none, some (vL (mxN (fun i => C (b + 24) (i : Int)) (fun i => C (b + 25) (i : Int)) a i)), none, some (vI (i : Int))], T, C) (some (vL (mxN (fun i => C (b + 24) (i : Int)) (fun i => C (b + 25) (i : Int)) a z)), (T, C)) := by
    intro k
    induction k with
    | zero =>
      intro i hi
      have ei : i = z := by omega
      subst ei
      refine Rn.cge rfl (X_ild rfl <| X_ald rfl <| X_gi 3 0 0 hS.no ⟨rfl, rfl, rfl⟩ (Or.inl rfl) <| X_nil) (by first | omega | (simp (disch := omega) only [um_eq, um_na, um_ni, Int.toNat_natCast]; omega)) (by first | omega | (simp (disch := omega) only [um_eq, um_na, um_ni, Int.toNat_natCast]; omega)) (fun hc => ?_) (fun hc => absurd hc (by first | omega | decide | (simp (disch := omega) only [um_eq, um_na, um_ni, Int.toNat_natCast]; omega)))
      refine Rn.rl rfl (X_lld rfl <| X_nil) rfl
    | succ k ih =>
      intro i hi
      have nx := ih (i + 1) (by omega)
      have t := ht i (by omega)
      refine Rn.cge rfl (X_ild rfl <| X_ald rfl <| X_gi 3 0 0 hS.no ⟨rfl, rfl, rfl⟩ (Or.inl rfl) <| X_nil) (by first | omega | (simp (disch := omega) only [um_eq, um_na, um_ni, Int.toNat_natCast]; omega)) (by first | omega | (simp (disch := omega) only [um_eq, um_na, um_ni, Int.toNat_natCast]; omega)) (fun hc => absurd hc (by first | omega | decide | (simp (disch := omega) only [um_eq, um_na, um_ni, Int.toNat_natCast]; omega))) (fun hc => ?_)
      refine Rn.jto rfl (X_l <| X_lld rfl <| X_lmu <| X_ald rfl <| X_gr 3 1 hS.no ⟨rfl, rfl⟩ rfl rfl <| X_ild rfl <| X_ia hS.wr (by first | omega | (simp (disch := omega) only [um_eq, um_na, um_ni, Int.toNat_natCast]; omega)) (by first | omega | (simp (disch := omega) only [um_eq, um_na, um_ni, Int.toNat_natCast]; omega)) rfl <| X_i2l (by first | omega | (simp (disch := omega) only [um_eq, um_na, um_ni, Int.toNat_natCast]; omega)) <| X_lad <| X_lst rfl (L' := [_, _, _, _, _, _]) rfl <| X_l <| X_lld rfl <| X_lmu <| X_ald rfl <| X_gr 3 2 hS.no ⟨rfl, rfl⟩ rfl rfl <| X_ild rfl <| X_ia hS.na (by first | omega | (simp (disch := omega) only [um_eq, um_na, um_ni, Int.toNat_natCast]; omega)) (by first | omega | (simp (disch := omega) only [um_eq, um_na, um_ni, Int.toNat_natCast]; omega)) rfl <| X_i2l (by first | omega | (simp (disch := omega) only [um_eq, um_na, um_ni, Int.toNat_natCast]; omega)) <| X_lad <| X_lst rfl (L' := [_, _, _, _, _, _]) rfl <| X_inc rfl (L' := [_, _, _, _, _, _]) rfl <| X_nil) ?_
      exact nx
  refine ⟨_, rfl, ?_⟩
  refine Rn.fal rfl (X_lld rfl <| X_lst rfl (L' := [_, _, _, _, _, _]) rfl <| X_i <| X_ist rfl (L' := [_, _, _, _, _, _]) rfl <| X_nil) ?_
  exact loop z 0 (by omega)
theorem c_mix {a v : Int} (hM : isM T) : Cl S 194 [vR 76, vL v] (T, um M 76 25 a) (none, (T, um M 76 25 (31 * a + v))) := by
  refine ⟨_, rfl, ?_⟩
  obtain ⟨Q, hQ, eQ⟩ : ∃ Q, Rn S 194 0 ([], [some (vR 76), some (vL v), none], T, um M 76 25 a) (none, (T, Q)) ∧ Q = um M 76 25 (31 * a + v) := by
    refine ⟨_, (Rn.rv rfl (X_ald rfl <| X_l <| X_ald rfl <| X_gl 8 25 25 hM.ob ⟨rfl, rfl, rfl⟩ rfl <| X_lmu <| X_lld rfl <| X_lad <| X_pl 8 25 25 hM.ob ⟨rfl, rfl, rfl⟩ rfl <| X_nil) rfl), ?_⟩
    rw [um_um, um_eq]
  rw [eQ] at hQ
  exact hQ
theorem op_digest (g : Gl T M K) (hK : K ≤ 100) : OpL S 102 195 [] T M K := by
  have hX := g.x
  have hM := g.m
  have hS := hX.s1
  have hz := g.sz
  have hm := g.wm
  obtain ⟨w, hh, e0, e1, w7, hh7, ewh, hwh⟩ := g.wh
  have fl := g.rg.fl.1
  have m8 := g.rg.m8
  have em : M (1 + 23) 0 = M 77 7 := g.rg.m
  have no := g.rg.no
  obtain ⟨z, ez⟩ : ∃ z : Nat, M (1 + 23) 0 = (z : Int) := ⟨(M (1 + 23) 0).toNat, by omega⟩
  have zz : M 5 1 = (((M 5 1).toNat : Nat) : Int) := by omega
  have bo := g.beOk hK
  have ht : ∀ i : Nat, i < w * hh → 0 ≤ M (1 + 2) (i : Int) ∧ M (1 + 2) (i : Int) ≤ 9 := fun i hi => fl.2.2.2.2.2.2 (i : Int) (by omega) (by omega)
  have ww : M (1 + 1) 0 * M (1 + 1) 1 = ((w * hh : Nat) : Int) := by
    show M 2 0 * M 2 1 = _
    rw [e0, e1, Int.natCast_mul]
  obtain ⟨a1, ha1⟩ : ∃ a1, a1 = mxI (fun k => cntV M (k : Int)) 857 11 := ⟨_, rfl⟩
  obtain ⟨a2, ha2⟩ : ∃ a2, a2 = mxI (fun i => M (1 + 2) (i : Int)) a1 (w * hh) := ⟨_, rfl⟩
  obtain ⟨a3, ha3⟩ : ∃ a3, a3 = mxS (fun s k => M (1 + 16 + 2 * s) (k : Int)) a2 (M 5 1).toNat := ⟨_, rfl⟩
  obtain ⟨a4, ha4⟩ : ∃ a4, a4 = mxN (fun i => M (1 + 24) (i : Int)) (fun i => M (1 + 25) (i : Int)) a3 z := ⟨_, rfl⟩
  have k2 := c_fmix (S := S) (C := M) (b := 1) (a := a1) hS ww (by omega) (by have := fl.1; omega) (by have := fl.2.1; omega) (fun i hi => by have := ht i hi; omega)
  have k3 := c_bmix (S := S) (C := M) (b := 1) (a := a2) hS (show M (1 + 4) 1 = (((M 5 1).toNat : Nat) : Int) from zz) (by omega) (fun s hs => bo.2.2.2 s (show (s : Int) < M 5 1 by omega))
  have k4 := c_nmix (S := S) (C := M) (b := 1) (a := a3) hS ez (by omega) (fun i hi => by
    have := (no i (by omega) (by omega)).2
    exact ⟨by omega, by omega⟩)
  rw [← ha2] at k2
  rw [← ha3] at k3
  rw [← ha4] at k4
  have cloop : ∀ r, Rn S 102 31 ([], [some (vR 0), some (vL a1), none, some (vI 11)], T, M) r → ∀ (k i : Nat), i + k = 11 → Rn S 102 6 ([], [some (vR 0), some (vL (mxI (fun k => cntV M (k : Int)) 857 i)), none, some (vI (i : Int))], T, M) r := by
    intro r hr k
    induction k with
    | zero =>
      intro i hi
      have ei : i = 11 := by omega
      subst ei
      rw [← ha1]
      refine Rn.cgt rfl (X_ild rfl <| X_i <| X_nil) (by first | omega | (simp (disch := omega) only [um_eq, um_na, um_ni, Int.toNat_natCast]; omega)) (by first | omega | (simp (disch := omega) only [um_eq, um_na, um_ni, Int.toNat_natCast]; omega)) (fun hc => ?_) (fun hc => absurd hc (by first | omega | decide | (simp (disch := omega) only [um_eq, um_na, um_ni, Int.toNat_natCast]; omega)))
      exact hr
    | succ k ih =>
      intro i hi
      have nx := ih (i + 1) (by omega)
      have c := c_howMany (S := S) (k := (i : Int)) g (by omega) (by omega)
      have ic := cntV_in (k := (i : Int)) g (by omega) (by omega) (by omega)
      refine Rn.cgt rfl (X_ild rfl <| X_i <| X_nil) (by first | omega | (simp (disch := omega) only [um_eq, um_na, um_ni, Int.toNat_natCast]; omega)) (by first | omega | (simp (disch := omega) only [um_eq, um_na, um_ni, Int.toNat_natCast]; omega)) (fun hc => absurd hc (by first | omega | decide | (simp (disch := omega) only [um_eq, um_na, um_ni, Int.toNat_natCast]; omega))) (fun hc => ?_)
      refine Rn.cal rfl (X_l <| X_lld rfl <| X_lmu <| X_ald rfl <| X_ild rfl <| X_nil) (vs := [_, _]) (rest := [_]) rfl rfl rfl (rcv_v hX.ob (by decide)) (c) ?_
      refine Rn.jto rfl (X_i2l (by first | omega | (simp (disch := omega) only [um_eq, um_na, um_ni, Int.toNat_natCast]; omega)) <| X_lad <| X_lst rfl (L' := [_, _, _, _]) rfl <| X_inc rfl (L' := [_, _, _, _]) rfl <| X_nil) ?_
      exact nx
  have fr := g.fr
  obtain ⟨⟨fr1, fr2⟩, fr3, fr4⟩ := fr
  -- the model
  have q77 : ∀ a, um M 76 25 a 77 = M 77 := fun a => um_fn (by decide)
  have gq : ∀ a, Gl T (um M 76 25 a) (K + 1) := fun a => g.upd (Kept.of (fun c hc => um_fn (by omega)) (um_ni (by decide)) (um_ni (by decide)) (um_ni (by decide)) (fun k _ _ => by rw [q77])) (by
    rw [q77]
    exact g.rg.cg (fun c c1 c2 _ => um_fn (by omega)) (by omega)) (g.re.cg (um_fn (by decide)) (um_fn (by decide)) (by omega)) (by omega)
  have l1 : ∀ r, Rn S 195 31 ([], [some (vR 76), some (vI 11), none], T, um M 76 25 a1) r → ∀ (k i : Nat), i + k = 11 → Rn S 195 9 ([], [some (vR 76), some (vI (i : Int)), none], T, um M 76 25 (mxI (fun k => cntV M (k : Int)) 857 i)) r := by
    intro r hr k
    induction k with
    | zero =>
      intro i hi
      have ei : i = 11 := by omega
      subst ei
      rw [← ha1]
      refine Rn.cge rfl (X_ild rfl <| X_i <| X_nil) (by first | omega | (simp (disch := omega) only [um_eq, um_na, um_ni, Int.toNat_natCast]; omega)) (by first | omega | (simp (disch := omega) only [um_eq, um_na, um_ni, Int.toNat_natCast]; omega)) (fun hc => ?_) (fun hc => absurd hc (by first | omega | decide | (simp (disch := omega) only [um_eq, um_na, um_ni, Int.toNat_natCast]; omega)))
      exact hr
    | succ k ih =>
      intro i hi
      have nx := ih (i + 1) (by omega)
      have c := c_countOf (S := S) (M := um M 76 25 (mxI (fun k => cntV M (k : Int)) 857 i)) (k := (i : Int)) hM (by omega) (by omega)
      rw [show cntV (um M 76 25 (mxI (fun k => cntV M (k : Int)) 857 i)) (i : Int) = cntV M (i : Int) by
        unfold cntV
        rw [um_ni (by decide), q77]] at c
      have ic := cntV_in (k := (i : Int)) g (by omega) (by omega) (by omega)
      have cx := c_mix (S := S) (M := M) (a := mxI (fun k => cntV M (k : Int)) 857 i) (v := cntV M (i : Int)) hM
      refine Rn.cge rfl (X_ild rfl <| X_i <| X_nil) (by first | omega | (simp (disch := omega) only [um_eq, um_na, um_ni, Int.toNat_natCast]; omega)) (by first | omega | (simp (disch := omega) only [um_eq, um_na, um_ni, Int.toNat_natCast]; omega)) (fun hc => absurd hc (by first | omega | decide | (simp (disch := omega) only [um_eq, um_na, um_ni, Int.toNat_natCast]; omega))) (fun hc => ?_)
      refine Rn.cal rfl (X_ald rfl <| X_ald rfl <| X_ild rfl <| X_nil) (vs := [_, _]) (rest := [_]) rfl rfl rfl (rcv_v hM.ob (by decide)) (c) ?_
      refine Rn.cal rfl (X_i2l (by first | omega | (simp (disch := omega) only [um_eq, um_na, um_ni, Int.toNat_natCast]; omega)) <| X_nil) (vs := [_, _]) (rest := []) rfl rfl rfl (rcv_v hM.ob (by decide)) (cx) ?_
      refine Rn.jto rfl (X_inc rfl (L' := [_, _, _]) rfl <| X_nil) ?_
      exact nx
  have l2 : ∀ r, Rn S 195 70 ([], [some (vR 76), some (vI ((w * hh : Nat) : Int)), none], T, um M 76 25 a2) r → ∀ (k i : Nat), i + k = w * hh → Rn S 195 33 ([], [some (vR 76), some (vI (i : Int)), none], T, um M 76 25 (mxI (fun i => M (1 + 2) (i : Int)) a1 i)) r := by
    intro r hr k
    induction k with
    | zero =>
      intro i hi
      have ei : i = w * hh := by omega
      have p0 : um M 76 25 (mxI (fun i => M (1 + 2) (i : Int)) a1 i) 77 0 * um M 76 25 (mxI (fun i => M (1 + 2) (i : Int)) a1 i) 77 1 = (i : Int) := by
        rw [q77, hm.1, hm.2, ei]
        exact ww
      rw [← ei] at hr ha2
      rw [ha2] at hr
      refine Rn.cge rfl (X_ild rfl <| X_ald rfl <| X_gr 8 0 hM.ob ⟨rfl, rfl⟩ rfl rfl <| X_i <| X_ia hM.w (by first | omega | (simp (disch := omega) only [um_eq, um_na, um_ni, Int.toNat_natCast]; omega)) (by first | omega | (simp (disch := omega) only [um_eq, um_na, um_ni, Int.toNat_natCast]; omega)) rfl <| X_ald rfl <| X_gr 8 0 hM.ob ⟨rfl, rfl⟩ rfl rfl <| X_i <| X_ia hM.w (by first | omega | (simp (disch := omega) only [um_eq, um_na, um_ni, Int.toNat_natCast]; omega)) (by first | omega | (simp (disch := omega) only [um_eq, um_na, um_ni, Int.toNat_natCast]; omega)) rfl <| X_mul <| X_nil) (by first | omega | (simp (disch := omega) only [um_eq, um_na, um_ni, Int.toNat_natCast]; omega)) (by first | omega | (simp (disch := omega) only [um_eq, um_na, um_ni, Int.toNat_natCast]; omega)) (fun hc => ?_) (fun hc => absurd hc (by first | omega | decide | (simp (disch := omega) only [um_eq, um_na, um_ni, Int.toNat_natCast]; omega)))
      exact hr
    | succ k ih =>
      intro i hi
      have nx := ih (i + 1) (by omega)
      have p0 : um M 76 25 (mxI (fun i => M (1 + 2) (i : Int)) a1 i) 77 0 * um M 76 25 (mxI (fun i => M (1 + 2) (i : Int)) a1 i) 77 1 = ((w * hh : Nat) : Int) := by
        rw [q77, hm.1, hm.2]
        exact ww
      have t := ht i (by omega)
      have e : um M 76 25 (mxI (fun i => M (1 + 2) (i : Int)) a1 i) 77 (10 + (i : Int)) = M (1 + 2) (i : Int) := by
        rw [q77, g.rg.t (i : Int) (by omega) (by omega)]
        congr 1 <;> omega
      have cx := c_mix (S := S) (M := M) (a := mxI (fun i => M (1 + 2) (i : Int)) a1 i) (v := M (1 + 2) (i : Int)) hM
      rw [← e] at cx
      refine Rn.cge rfl (X_ild rfl <| X_ald rfl <| X_gr 8 0 hM.ob ⟨rfl, rfl⟩ rfl rfl <| X_i <| X_ia hM.w (by first | omega | (simp (disch := omega) only [um_eq, um_na, um_ni, Int.toNat_natCast]; omega)) (by first | omega | (simp (disch := omega) only [um_eq, um_na, um_ni, Int.toNat_natCast]; omega)) rfl <| X_ald rfl <| X_gr 8 0 hM.ob ⟨rfl, rfl⟩ rfl rfl <| X_i <| X_ia hM.w (by first | omega | (simp (disch := omega) only [um_eq, um_na, um_ni, Int.toNat_natCast]; omega)) (by first | omega | (simp (disch := omega) only [um_eq, um_na, um_ni, Int.toNat_natCast]; omega)) rfl <| X_mul <| X_nil) (by first | omega | (simp (disch := omega) only [um_eq, um_na, um_ni, Int.toNat_natCast]; omega)) (by first | omega | (simp (disch := omega) only [um_eq, um_na, um_ni, Int.toNat_natCast]; omega)) (fun hc => absurd hc (by first | omega | decide | (simp (disch := omega) only [um_eq, um_na, um_ni, Int.toNat_natCast]; omega))) (fun hc => ?_)
      refine Rn.cal rfl (X_ald rfl <| X_ald rfl <| X_gr 8 0 hM.ob ⟨rfl, rfl⟩ rfl rfl <| X_i <| X_ild rfl <| X_add <| X_ia hM.w (by first | omega | (simp (disch := omega) only [um_eq, um_na, um_ni, Int.toNat_natCast]; omega)) (by first | omega | (simp (disch := omega) only [um_eq, um_na, um_ni, Int.toNat_natCast]; omega)) rfl <| X_i2l (by first | omega | (simp (disch := omega) only [um_eq, um_na, um_ni, Int.toNat_natCast]; omega)) <| X_nil) (vs := [_, _]) (rest := []) rfl rfl rfl (rcv_v hM.ob (by decide)) (cx) ?_
      refine Rn.jto rfl (X_inc rfl (L' := [_, _, _]) rfl <| X_nil) ?_
      rw [e]
      exact nx
  have l3 : ∀ (k j s : Nat) r, j + k = 8 → (s : Int) < M 5 1 → Rn S 195 115 ([], [some (vR 76), some (vI (s : Int)), some (vI 8)], T, um M 76 25 (mxI (fun k => M (1 + 16 + 2 * s) (k : Int)) (mxS (fun s k => M (1 + 16 + 2 * s) (k : Int)) a2 s) 8)) r → Rn S 195 85 ([], [some (vR 76), some (vI (s : Int)), some (vI (j : Int))], T, um M 76 25 (mxI (fun k => M (1 + 16 + 2 * s) (k : Int)) (mxS (fun s k => M (1 + 16 + 2 * s) (k : Int)) a2 s) j)) r := by
    intro k
    induction k with
    | zero =>
      intro j s r hj hs hr
      have ej : j = 8 := by omega
      subst ej
      refine Rn.cge rfl (X_ild rfl <| X_i <| X_nil) (by first | omega | (simp (disch := omega) only [um_eq, um_na, um_ni, Int.toNat_natCast]; omega)) (by first | omega | (simp (disch := omega) only [um_eq, um_na, um_ni, Int.toNat_natCast]; omega)) (fun hc => ?_) (fun hc => absurd hc (by first | omega | decide | (simp (disch := omega) only [um_eq, um_na, um_ni, Int.toNat_natCast]; omega)))
      exact hr
    | succ k ih =>
      intro j s r hj hs hr
      have nx := ih (j + 1) s r (by omega) hs hr
      obtain ⟨t0, t1, t2, t3, t4, t5, t6, t7⟩ := bo.2.2.2 s hs
      have t : I32 (M (1 + 16 + 2 * s) (j : Int)) := by
        rcases (show j = 0 ∨ j = 1 ∨ j = 2 ∨ j = 3 ∨ j = 4 ∨ j = 5 ∨ j = 6 ∨ j = 7 by omega) with rfl | rfl | rfl | rfl | rfl | rfl | rfl | rfl
        · show I32 (M (1 + 16 + 2 * s) 0); omega
        · show I32 (M (1 + 16 + 2 * s) 1); omega
        · show I32 (M (1 + 16 + 2 * s) 2); omega
        · show I32 (M (1 + 16 + 2 * s) 3); omega
        · show I32 (M (1 + 16 + 2 * s) 4); omega
        · show I32 (M (1 + 16 + 2 * s) 5); omega
        · show I32 (M (1 + 16 + 2 * s) 6); omega
        · show I32 (M (1 + 16 + 2 * s) 7); omega
      have e : um M 76 25 (mxI (fun k => M (1 + 16 + 2 * s) (k : Int)) (mxS (fun s k => M (1 + 16 + 2 * s) (k : Int)) a2 s) j) 77 (59 + 4 * (j : Int) + (s : Int)) = M (1 + 16 + 2 * s) (j : Int) := by
        rw [q77, g.rg.s s hs (j : Int) (by omega) (by omega)]
        congr 1 <;> omega
      have cx := c_mix (S := S) (M := M) (a := mxI (fun k => M (1 + 16 + 2 * s) (k : Int)) (mxS (fun s k => M (1 + 16 + 2 * s) (k : Int)) a2 s) j) (v := M (1 + 16 + 2 * s) (j : Int)) hM
      rw [← e] at cx t
      refine Rn.cge rfl (X_ild rfl <| X_i <| X_nil) (by first | omega | (simp (disch := omega) only [um_eq, um_na, um_ni, Int.toNat_natCast]; omega)) (by first | omega | (simp (disch := omega) only [um_eq, um_na, um_ni, Int.toNat_natCast]; omega)) (fun hc => absurd hc (by first | omega | decide | (simp (disch := omega) only [um_eq, um_na, um_ni, Int.toNat_natCast]; omega))) (fun hc => ?_)
      refine Rn.cal rfl (X_ald rfl <| X_ald rfl <| X_gr 8 0 hM.ob ⟨rfl, rfl⟩ rfl rfl <| X_i <| X_i <| X_ild rfl <| X_mul <| X_add <| X_ild rfl <| X_add <| X_ia hM.w (by first | omega | (simp (disch := omega) only [um_eq, um_na, um_ni, Int.toNat_natCast]; omega)) (by first | omega | (simp (disch := omega) only [um_eq, um_na, um_ni, Int.toNat_natCast]; omega)) rfl <| X_i2l (by first | omega | (simp (disch := omega) only [um_eq, um_na, um_ni, Int.toNat_natCast]; omega)) <| X_nil) (vs := [_, _]) (rest := []) rfl rfl rfl (rcv_v hM.ob (by decide)) (cx) ?_
      refine Rn.jto rfl (X_inc rfl (L' := [_, _, _]) rfl <| X_nil) ?_
      rw [e]
      exact nx
  have l4 : ∀ r, (∀ w, Rn S 195 121 ([], [some (vR 76), some (vI (M 5 1)), w], T, um M 76 25 a3) r) → ∀ (k s : Nat) (w : Option AV), s + k = (M 5 1).toNat → Rn S 195 72 ([], [some (vR 76), some (vI (s : Int)), w], T, um M 76 25 (mxS (fun s k => M (1 + 16 + 2 * s) (k : Int)) a2 s)) r := by
    intro r hr k
    induction k with
    | zero =>
      intro s w hs
      have es : s = (M 5 1).toNat := by omega
      have e6 : um M 76 25 (mxS (fun s k => M (1 + 16 + 2 * s) (k : Int)) a2 s) 77 6 = M 5 1 := by rw [q77]; exact hz.1
      have h := hr w
      rw [ha3, ← es, show M 5 1 = (s : Int) by omega] at h
      refine Rn.cge rfl (X_ild rfl <| X_ald rfl <| X_gr 8 0 hM.ob ⟨rfl, rfl⟩ rfl rfl <| X_i <| X_ia hM.w (by first | omega | (simp (disch := omega) only [um_eq, um_na, um_ni, Int.toNat_natCast]; omega)) (by first | omega | (simp (disch := omega) only [um_eq, um_na, um_ni, Int.toNat_natCast]; omega)) rfl <| X_nil) (by first | omega | (simp (disch := omega) only [um_eq, um_na, um_ni, Int.toNat_natCast]; omega)) (by first | omega | (simp (disch := omega) only [um_eq, um_na, um_ni, Int.toNat_natCast]; omega)) (fun hc => ?_) (fun hc => absurd hc (by first | omega | decide | (simp (disch := omega) only [um_eq, um_na, um_ni, Int.toNat_natCast]; omega)))
      exact h
    | succ k ih =>
      intro s w hs
      have nx := ih (s + 1) (some (vI 8)) (by omega)
      have e6 : um M 76 25 (mxS (fun s k => M (1 + 16 + 2 * s) (k : Int)) a2 s) 77 6 = M 5 1 := by rw [q77]; exact hz.1
      refine Rn.cge rfl (X_ild rfl <| X_ald rfl <| X_gr 8 0 hM.ob ⟨rfl, rfl⟩ rfl rfl <| X_i <| X_ia hM.w (by first | omega | (simp (disch := omega) only [um_eq, um_na, um_ni, Int.toNat_natCast]; omega)) (by first | omega | (simp (disch := omega) only [um_eq, um_na, um_ni, Int.toNat_natCast]; omega)) rfl <| X_nil) (by first | omega | (simp (disch := omega) only [um_eq, um_na, um_ni, Int.toNat_natCast]; omega)) (by first | omega | (simp (disch := omega) only [um_eq, um_na, um_ni, Int.toNat_natCast]; omega)) (fun hc => absurd hc (by first | omega | decide | (simp (disch := omega) only [um_eq, um_na, um_ni, Int.toNat_natCast]; omega))) (fun hc => ?_)
      refine Rn.fal rfl (X_i <| X_ist rfl (L' := [_, _, _]) rfl <| X_nil) ?_
      refine l3 8 0 s _ (by omega) (by omega) ?_
      refine Rn.jto rfl (X_inc rfl (L' := [_, _, _]) rfl <| X_nil) ?_
      exact nx
  have l5 : ∀ r w, Rn S 195 168 ([], [some (vR 76), some (vI (z : Int)), w], T, um M 76 25 a4) r → ∀ (k i : Nat), i + k = z → Rn S 195 123 ([], [some (vR 76), some (vI (i : Int)), w], T, um M 76 25 (mxN (fun i => M (1 + 24) (i : Int)) (fun i => M (1 + 25) (i : Int)) a3 i)) r := by
    intro r w hr k
    induction k with
    | zero =>
      intro i hi
      have ei : i = z := by omega
      subst ei
      have e7 : um M 76 25 (mxN (fun i => M (1 + 24) (i : Int)) (fun i => M (1 + 25) (i : Int)) a3 i) 77 7 = (i : Int) := by rw [q77, ← em]; exact ez
      rw [ha4] at hr
      refine Rn.cge rfl (X_ild rfl <| X_ald rfl <| X_gr 8 0 hM.ob ⟨rfl, rfl⟩ rfl rfl <| X_i <| X_ia hM.w (by first | omega | (simp (disch := omega) only [um_eq, um_na, um_ni, Int.toNat_natCast]; omega)) (by first | omega | (simp (disch := omega) only [um_eq, um_na, um_ni, Int.toNat_natCast]; omega)) rfl <| X_nil) (by first | omega | (simp (disch := omega) only [um_eq, um_na, um_ni, Int.toNat_natCast]; omega)) (by first | omega | (simp (disch := omega) only [um_eq, um_na, um_ni, Int.toNat_natCast]; omega)) (fun hc => ?_) (fun hc => absurd hc (by first | omega | decide | (simp (disch := omega) only [um_eq, um_na, um_ni, Int.toNat_natCast]; omega)))
      exact hr
    | succ k ih =>
      intro i hi
      have nx := ih (i + 1) (by omega)
      have e7 : um M 76 25 (mxN (fun i => M (1 + 24) (i : Int)) (fun i => M (1 + 25) (i : Int)) a3 i) 77 7 = (z : Int) := by rw [q77, ← em]; exact ez
      have t := no i (by omega) (by omega)
      have x1 : ∀ a, um M 76 25 a 77 (91 + (i : Int)) = M (1 + 24) (i : Int) := fun a => by
        rw [q77, t.1.1]
        congr 1 <;> omega
      have x2 : ∀ a, um M 76 25 a 77 (99 + (i : Int)) = M (1 + 25) (i : Int) := fun a => by
        rw [q77, t.1.2]
        congr 1 <;> omega
      have y1 := x1 (mxN (fun i => M (1 + 24) (i : Int)) (fun i => M (1 + 25) (i : Int)) a3 i)
      have c1 := c_mix (S := S) (M := M) (a := mxN (fun i => M (1 + 24) (i : Int)) (fun i => M (1 + 25) (i : Int)) a3 i) (v := M (1 + 24) (i : Int)) hM
      have c2 := c_mix (S := S) (M := M) (a := 31 * mxN (fun i => M (1 + 24) (i : Int)) (fun i => M (1 + 25) (i : Int)) a3 i + M (1 + 24) (i : Int)) (v := M (1 + 25) (i : Int)) hM
      have y2 := x2 (31 * mxN (fun i => M (1 + 24) (i : Int)) (fun i => M (1 + 25) (i : Int)) a3 i + M (1 + 24) (i : Int))
      refine Rn.cge rfl (X_ild rfl <| X_ald rfl <| X_gr 8 0 hM.ob ⟨rfl, rfl⟩ rfl rfl <| X_i <| X_ia hM.w (by first | omega | (simp (disch := omega) only [um_eq, um_na, um_ni, Int.toNat_natCast]; omega)) (by first | omega | (simp (disch := omega) only [um_eq, um_na, um_ni, Int.toNat_natCast]; omega)) rfl <| X_nil) (by first | omega | (simp (disch := omega) only [um_eq, um_na, um_ni, Int.toNat_natCast]; omega)) (by first | omega | (simp (disch := omega) only [um_eq, um_na, um_ni, Int.toNat_natCast]; omega)) (fun hc => ?_) (fun hc => ?_)
      · exact absurd hc (by omega)
      · refine Rn.cal rfl (X_ald rfl <| X_ald rfl <| X_gr 8 0 hM.ob ⟨rfl, rfl⟩ rfl rfl <| X_i <| X_ild rfl <| X_add <| X_ia hM.w (by first | omega | (simp (disch := omega) only [um_eq, um_na, um_ni, Int.toNat_natCast]; omega)) (by first | omega | (simp (disch := omega) only [um_eq, um_na, um_ni, Int.toNat_natCast]; omega)) rfl <| X_i2l (by first | omega | (simp (disch := omega) only [um_eq, um_na, um_ni, Int.toNat_natCast]; omega)) <| X_nil) (vs := [_, _]) (rest := []) rfl rfl rfl (rcv_v hM.ob (by decide)) ((by rw [y1]; exact c1)) ?_
        refine Rn.cal rfl (X_ald rfl <| X_ald rfl <| X_gr 8 0 hM.ob ⟨rfl, rfl⟩ rfl rfl <| X_i <| X_ild rfl <| X_add <| X_ia hM.w (by first | omega | (simp (disch := omega) only [um_eq, um_na, um_ni, Int.toNat_natCast]; omega)) (by first | omega | (simp (disch := omega) only [um_eq, um_na, um_ni, Int.toNat_natCast]; omega)) rfl <| X_i2l (by first | omega | (simp (disch := omega) only [um_eq, um_na, um_ni, Int.toNat_natCast]; omega)) <| X_nil) (vs := [_, _]) (rest := []) rfl rfl rfl (rcv_v hM.ob (by decide)) ((by rw [y2]; exact c2)) ?_
        refine Rn.jto rfl (X_inc rfl (L' := [_, _, _]) rfl <| X_nil) ?_
        exact nx
  refine ⟨31 * (31 * a4 + M 0 7) + M 0 8, T, M, um M 76 25 (31 * (31 * a4 + M 0 7) + M 0 8), ⟨_, rfl, ?_⟩, ⟨_, rfl, ?_⟩, gq _⟩
  · refine Rn.fal rfl (X_l <| X_lst rfl (L' := [_, _, _, _]) rfl <| X_i <| X_ist rfl (L' := [_, _, _, _]) rfl <| X_nil) ?_
    refine cloop _ ?_ 11 0 (by omega)
    refine Rn.cal rfl (X_ald rfl <| X_gr 7 0 hX.ob ⟨rfl, rfl⟩ rfl rfl <| X_gr 6 0 hX.s1.st ⟨rfl, rfl⟩ rfl rfl <| X_lld rfl <| X_nil) (vs := [_, _]) (rest := []) rfl rfl rfl (rcv_v hX.s1.fl (by decide)) (k2) ?_
    refine Rn.cal rfl (X_lst rfl (L' := [_, _, _, _]) rfl <| X_ald rfl <| X_gr 7 0 hX.ob ⟨rfl, rfl⟩ rfl rfl <| X_gr 6 1 hX.s1.st ⟨rfl, rfl⟩ rfl rfl <| X_lld rfl <| X_nil) (vs := [_, _]) (rest := []) rfl rfl rfl (rcv_v hX.s1.be (by decide)) (k3) ?_
    refine Rn.cal rfl (X_lst rfl (L' := [_, _, _, _]) rfl <| X_ald rfl <| X_gr 7 0 hX.ob ⟨rfl, rfl⟩ rfl rfl <| X_gr 6 2 hX.s1.st ⟨rfl, rfl⟩ rfl rfl <| X_lld rfl <| X_nil) (vs := [_, _]) (rest := []) rfl rfl rfl (rcv_v hX.s1.no (by decide)) (k4) ?_
    refine Rn.rl rfl (X_lst rfl (L' := [_, _, _, _]) rfl <| X_l <| X_lld rfl <| X_lmu <| X_ald rfl <| X_gl 7 7 7 hX.ob ⟨rfl, rfl, rfl⟩ rfl <| X_lad <| X_lst rfl (L' := [_, _, _, _]) rfl <| X_l <| X_lld rfl <| X_lmu <| X_ald rfl <| X_gl 7 8 8 hX.ob ⟨rfl, rfl, rfl⟩ rfl <| X_lad <| X_nil) rfl
  · refine Rn.fal rfl (X_ald rfl <| X_l <| X_pl 8 25 25 hM.ob ⟨rfl, rfl, rfl⟩ rfl <| X_i <| X_ist rfl (L' := [_, _, _]) rfl <| X_nil) ?_
    refine l1 _ ?_ 11 0 (by omega)
    refine Rn.fal rfl (X_i <| X_ist rfl (L' := [_, _, _]) rfl <| X_nil) ?_
    refine l2 _ ?_ (w * hh) 0 (by omega)
    refine Rn.fal rfl (X_i <| X_ist rfl (L' := [_, _, _]) rfl <| X_nil) ?_
    refine l4 _ (fun w' => ?_) (M 5 1).toNat 0 none (by omega)
    refine Rn.fal rfl (X_i <| X_ist rfl (L' := [_, _, _]) rfl <| X_nil) ?_
    refine l5 _ w' ?_ z 0 (by omega)
    have c1 := c_mix (S := S) (M := M) (a := a4) (v := M 0 7) hM
    have c2 := c_mix (S := S) (M := M) (a := 31 * a4 + M 0 7) (v := M 0 8) hM
    have y1 : um M 76 25 a4 76 5 = M 0 7 := by rw [um_ni (by decide)]; exact fr1.symm
    have y2 : um M 76 25 (31 * a4 + M 0 7) 76 6 = M 0 8 := by rw [um_ni (by decide)]; exact fr2.symm
    refine Rn.cal rfl (X_ald rfl <| X_ald rfl <| X_gl 8 5 5 hM.ob ⟨rfl, rfl, rfl⟩ rfl <| X_nil) (vs := [_, _]) (rest := []) rfl rfl rfl (rcv_v hM.ob (by decide)) ((by rw [y1]; exact c1)) ?_
    refine Rn.cal rfl (X_ald rfl <| X_ald rfl <| X_gl 8 6 6 hM.ob ⟨rfl, rfl, rfl⟩ rfl <| X_nil) (vs := [_, _]) (rest := []) rfl rfl rfl (rcv_v hM.ob (by decide)) ((by rw [y2]; exact c2)) ?_
    have y3 : um M 76 25 (31 * (31 * a4 + M 0 7) + M 0 8) 76 25 = 31 * (31 * a4 + M 0 7) + M 0 8 := um_eq
    refine Rn.eqv (Rn.rl rfl (X_ald rfl <| X_gl 8 25 25 hM.ob ⟨rfl, rfl, rfl⟩ rfl <| X_nil) rfl) ?_
    rw [y3]
end Digest
