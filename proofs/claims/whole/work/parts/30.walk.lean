/-! THE WALK FROM BED TO SWITCH, ERRANDS, COSTS, A NIGHT FORESEEN IN A STATE -/
section Walk
variable {S : List Int} {T : List Sh} {M : Nat → Int → Int} {b : Nat} {h : Hp}
/-- the way from cell s to cell e is v -/
def WayIs (M : Nat → Int → Int) (b s e : Nat) (v : Int) : Prop := ∃ D, IsW M b (M (b + 1) 0).toNat (M (b + 1) 1).toNat e D ∧ D s = v
theorem FlOk.wh (hf : FlOk M b) : M (b + 1) 0 = (((M (b + 1) 0).toNat : Nat) : Int) ∧ M (b + 1) 1 = (((M (b + 1) 1).toNat : Nat) : Int) := by
  have h1 := hf.1
  have h2 := hf.2.1
  omega
theorem FlOk.nn (hf : FlOk M b) : (((M (b + 1) 0).toNat * (M (b + 1) 1).toNat : Nat) : Int) = M (b + 1) 0 * M (b + 1) 1 := by
  have h := hf.wh
  rw [Int.natCast_mul, ← h.1, ← h.2]
theorem WayIs.uniq {s e : Nat} {v v' : Int} (hf : FlOk M b) (hs : (s : Int) < M (b + 1) 0 * M (b + 1) 1) (h : WayIs M b s e v) (h' : WayIs M b s e v') : v = v' := by
  obtain ⟨D, ⟨d1, d2⟩, rfl⟩ := h
  obtain ⟨E, ⟨e1, e2⟩, rfl⟩ := h'
  have hn := hf.nn
  exact Fx_uniq d1 d2 e1 e2 (by omega)
def md (w a e : Nat) : Nat := (a % w - e % w) + (e % w - a % w) + (a / w - e / w) + (e / w - a / w)
theorem md_0 {w a e : Nat} (h : md w a e = 0) : a = e := by
  unfold md at h
  have h1 : a % w = e % w := by omega
  have h2 : a / w = e / w := by omega
  rw [idx_of (w := w) (a := a), idx_of (w := w) (a := e), h1, h2]
/-- no way is longer than eleven a step along the rows -/
theorem IsW_le {w hh e : Nat} {D : Nat → Int} (hw : 0 < w) (he : e < w * hh) (hq : ∀ d, d < w * hh → 2 ≤ qN M b w d ∧ qN M b w d ≤ 11) (h : IsW M b w hh e D) : ∀ (k a : Nat), a < w * hh → md w a e = k → D a ≤ 11 * (k : Int) := by
  intro k
  induction k with
  | zero =>
    intro a ha hm
    have := md_0 hm
    subst this
    rw [h.1.1]
    omega
  | succ k ih =>
    intro a ha hm
    have ax : a % w < w := Nat.mod_lt _ hw
    have ay : a / w < hh := Nat.div_lt_of_lt_mul ha
    have exx : e % w < w := Nat.mod_lt _ hw
    have ey : e / w < hh := Nat.div_lt_of_lt_mul he
    have step : ∀ u v : Nat, u < w → v < hh → AdjC w a (u + w * v) → md w (u + w * v) e = k → D a ≤ 11 * ((k + 1 : Nat) : Int) := by
      intro u v hu hv hA hmd
      have hd : u + w * v < w * hh := by
        have : w * (v + 1) ≤ w * hh := Nat.mul_le_mul_left w hv
        rw [Nat.mul_add, Nat.mul_one] at this
        omega
      have h1 := ih (u + w * v) hd hmd
      have h2 := h.2 a (u + w * v) ha hd hA
      have h3 := (hq (u + w * v) hd).2
      omega
    unfold md at hm
    generalize ha1 : a % w = x at *
    generalize ha2 : a / w = y at *
    generalize he1 : e % w = x' at *
    generalize he2 : e / w = y' at *
    have adj : ∀ u v : Nat, u < w → ((y = v ∧ (x + 1 = u ∨ u + 1 = x)) ∨ (x = u ∧ (y + 1 = v ∨ v + 1 = y))) → AdjC w a (u + w * v) := by
      intro u v hu hA
      unfold AdjC
      rw [ha1, ha2, idx_mod hu, idx_div hu]
      exact hA
    have mdv : ∀ u v : Nat, u < w → md w (u + w * v) e = (u - x') + (x' - u) + (v - y') + (y' - v) := by
      intro u v hu
      unfold md
      rw [idx_mod hu, idx_div hu, he1, he2]
    by_cases c1 : x < x'
    · exact step (x + 1) y (by omega) ay (adj _ _ (by omega) (Or.inl ⟨rfl, Or.inl rfl⟩)) (by rw [mdv _ _ (by omega)]; omega)
    · by_cases c2 : x' < x
      · exact step (x - 1) y (by omega) ay (adj _ _ (by omega) (Or.inl ⟨rfl, Or.inr (by omega)⟩)) (by rw [mdv _ _ (by omega)]; omega)
      · by_cases c3 : y < y'
        · exact step x (y + 1) ax (by omega) (adj _ _ ax (Or.inr ⟨rfl, Or.inl rfl⟩)) (by rw [mdv _ _ ax]; omega)
        · exact step x (y - 1) ax (by omega) (adj _ _ ax (Or.inr ⟨rfl, Or.inr (by omega)⟩)) (by rw [mdv _ _ ax]; omega)
theorem WayIs.le {s e : Nat} {v : Int} (hf : FlOk M b) (hs : (s : Int) < M (b + 1) 0 * M (b + 1) 1) (he : (e : Int) < M (b + 1) 0 * M (b + 1) 1) (h : WayIs M b s e v) : 0 ≤ v ∧ v ≤ 200 := by
  obtain ⟨D, hD, rfl⟩ := h
  have hn := hf.nn
  have hwh := hf.wh
  have h1 := hf.1
  have h2 := hf.2.1
  have hq := qN_ge hf hwh.1 hwh.2
  refine ⟨Rl_ge (fun d hd => (hq d hd).1) hD.1 (by omega), ?_⟩
  have h3 := IsW_le (by omega) (by omega) hq hD _ s (by omega) rfl
  have hw : 0 < (M (b + 1) 0).toNat := by omega
  have a1 : s % (M (b + 1) 0).toNat < (M (b + 1) 0).toNat := Nat.mod_lt _ hw
  have a2 : e % (M (b + 1) 0).toNat < (M (b + 1) 0).toNat := Nat.mod_lt _ hw
  have a3 : s / (M (b + 1) 0).toNat < (M (b + 1) 1).toNat := Nat.div_lt_of_lt_mul (by omega)
  have a4 : e / (M (b + 1) 0).toNat < (M (b + 1) 1).toNat := Nat.div_lt_of_lt_mul (by omega)
  have h4 : md (M (b + 1) 0).toNat s e ≤ 12 := by
    unfold md
    generalize s % (M (b + 1) 0).toNat = u1 at a1 ⊢
    generalize e % (M (b + 1) 0).toNat = u2 at a2 ⊢
    generalize s / (M (b + 1) 0).toNat = u3 at a3 ⊢
    generalize e / (M (b + 1) 0).toNat = u4 at a4 ⊢
    omega
  omega
theorem IsW_cg {N : Nat → Int → Int} {w hh e : Nat} {D : Nat → Int} (h0 : N (b + 1) 0 = M (b + 1) 0) (h4 : N (b + 1) 4 = M (b + 1) 4) (h2 : N (b + 2) = M (b + 2)) : IsW N b w hh e D = IsW M b w hh e D := by
  have : qN N b w = qN M b w := by
    funext a
    unfold qN qI
    rw [h0, h4, h2]
  unfold IsW
  rw [this]
theorem WayIs_cg {N : Nat → Int → Int} {s e : Nat} {v : Int} (h0 : N (b + 1) 0 = M (b + 1) 0) (h1 : N (b + 1) 1 = M (b + 1) 1) (h4 : N (b + 1) 4 = M (b + 1) 4) (h2 : N (b + 2) = M (b + 2)) : WayIs N b s e v = WayIs M b s e v := by
  unfold WayIs
  rw [h0, h1]
  simp only [IsW_cg h0 h4 h2]
/-- the walk that is kept is unknown, or as it should be -/
def WalkOk (M : Nat → Int → Int) (b : Nat) : Prop := M (b + 1) 8 = -1 ∨ ∃ v, WayIs M b (M (b + 1) 3).toNat (M (b + 1) 2).toNat v ∧ M (b + 1) 8 = 2 * v
theorem c_mwalk (hS : isSt T b) (hf : FlOk M b) (hk : WalkOk M b) : ∃ M', Cl S 21 [vR (b + 1)] (T, M) (none, (T, M')) ∧ (∀ a, a ≠ b + 1 → a ≠ b + 3 → M' a = M a) ∧ (∀ k, k ≠ 8 → M' (b + 1) k = M (b + 1) k) ∧ ∃ v, WayIs M b (M (b + 1) 3).toNat (M (b + 1) 2).toNat v ∧ M' (b + 1) 8 = 2 * v := by
  have hwh := hf.wh
  have hn := hf.nn
  have hn2 := hf.n
  have hsw := hf.2.2.1
  have hbd := hf.2.2.2.1
  by_cases h8 : M (b + 1) 8 = -1
  · obtain ⟨M1, c1, p1, p2⟩ := c_measure (S := S) (M := M) (e := (M (b + 1) 2).toNat) hS hf hwh.1 hwh.2 (by omega)
    have es : ((M (b + 1) 2).toNat : Int) = M (b + 1) 2 := by omega
    have eb : ((M (b + 1) 3).toNat : Int) = M (b + 1) 3 := by omega
    rw [es] at c1
    have f1 : M1 (b + 1) = M (b + 1) := p1 _ (by omega)
    have hb49 : M1 (b + 3) (M (b + 1) 3) = M1 (b + 3) ((M (b + 1) 3).toNat : Int) := by rw [eb]
    refine ⟨um M1 (b + 1) 8 (2 * M1 (b + 3) (M (b + 1) 3)), ⟨_, rfl, ?_⟩, fun a a1 a3 => by rw [um_fn a1]; exact p1 a a3, fun k hk => by rw [um_ni hk, f1], M1 (b + 3) (M (b + 1) 3), ⟨_, p2, ?_⟩, um_eq⟩
    · have e3 : M1 (b + 1) 3 = M (b + 1) 3 := by rw [f1]
      refine Rn.cne rfl (X_ald rfl <| X_gi 1 8 8 hS.fl ⟨rfl, rfl, rfl⟩ (Or.inl rfl) <| X_i <| X_nil) (by first | omega | (simp (disch := omega) only [um_eq, um_na, um_ni, Int.toNat_natCast]; omega)) (by first | omega | (simp (disch := omega) only [um_eq, um_na, um_ni, Int.toNat_natCast]; omega)) (fun hc => ?_) (fun hc => ?_)
      · exact absurd h8 hc
      · refine Rn.cal rfl (X_ald rfl <| X_ald rfl <| X_gi 1 2 2 hS.fl ⟨rfl, rfl, rfl⟩ (Or.inl rfl) <| X_nil) (vs := [_, _]) (rest := []) rfl rfl rfl (rcv_v hS.fl (by decide)) (c1) ?_
        obtain ⟨N, g1, g2⟩ : ∃ N, Rn S 21 16 ([], [some (vR (b + 1))], T, M1) (none, (T, N)) ∧ N = um M1 (b + 1) 8 (2 * M1 (b + 3) (M (b + 1) 3)) := by
          refine ⟨_, Rn.fal rfl (X_ald rfl <| X_i <| X_ald rfl <| X_gr 1 7 hS.fl ⟨rfl, rfl⟩ rfl rfl <| X_ald rfl <| X_gi 1 3 3 hS.fl ⟨rfl, rfl, rfl⟩ (Or.inl rfl) <| X_ia hS.wy (by rw [e3]; omega) (by rw [e3]; omega) rfl <| X_mul <| X_pi 1 8 8 hS.fl ⟨rfl, rfl, rfl⟩ (Or.inl rfl) <| X_nil) (Rn.rv rfl (X_nil) rfl), ?_⟩
          rw [e3]
        rw [← g2]
        exact g1
    · show M1 (b + 3) ((M (b + 1) 3).toNat : Int) = _
      rw [eb]
  · rcases hk with hk | ⟨v, v1, v2⟩
    · exact absurd hk h8
    · have v3 := v1.le hf (by omega) (by omega)
      refine ⟨M, ⟨_, rfl, ?_⟩, fun _ _ _ => rfl, fun _ _ => rfl, v, v1, v2⟩
      refine Rn.cne rfl (X_ald rfl <| X_gi 1 8 8 hS.fl ⟨rfl, rfl, rfl⟩ (Or.inl rfl) <| X_i <| X_nil) (by first | omega | (simp (disch := omega) only [um_eq, um_na, um_ni, Int.toNat_natCast]; omega)) (by first | omega | (simp (disch := omega) only [um_eq, um_na, um_ni, Int.toNat_natCast]; omega)) (fun hc => ?_) (fun hc => ?_)
      · refine Rn.rv rfl (X_nil) rfl
      · exact absurd hc h8
theorem c_errandOf {s : Nat} {u : Int} (hS : isSt T b) (hs : s < 4) (hu : u = 0 ∨ u = 1) : Cl S 60 [vR b, vI (s : Int), vI u] (T, M) (some (vI ((if u = 0 then M (b + 16 + 2 * s) 3 else 0) + M (b + 1) 8)), (T, M)) := by
  refine ⟨_, rfl, ?_⟩
  refine Rn.ieq rfl (X_ild rfl <| X_nil) (by first | omega | (simp (disch := omega) only [um_eq, um_na, um_ni, Int.toNat_natCast]; omega)) (fun hc => ?_) (fun hc => ?_)
  · rw [if_pos hc]
    refine Rn.fal rfl (X_ald rfl <| X_gr 6 1 hS.st ⟨rfl, rfl⟩ rfl rfl <| X_gr 0 0 hS.be ⟨rfl, rfl⟩ rfl rfl <| X_ild rfl <| X_aa hS.sl (by decide) (by first | omega | (simp (disch := omega) only [um_eq, um_na, um_ni, Int.toNat_natCast]; omega)) (by first | omega | (simp (disch := omega) only [um_eq, um_na, um_ni, Int.toNat_natCast]; omega)) rfl (rSl_at (by omega)) <| X_gr 5 0 (hS.se (by omega)) ⟨rfl, rfl⟩ rfl rfl <| X_i <| X_ia (hS.tr (by omega)) (by first | omega | (simp (disch := omega) only [um_eq, um_na, um_ni, Int.toNat_natCast]; omega)) (by first | omega | (simp (disch := omega) only [um_eq, um_na, um_ni, Int.toNat_natCast]; omega)) rfl <| X_nil) ?_
    refine Rn.ri rfl (X_ist rfl (L' := [_, _, _, _]) rfl <| X_ild rfl <| X_ald rfl <| X_gr 6 0 hS.st ⟨rfl, rfl⟩ rfl rfl <| X_gi 1 8 8 hS.fl ⟨rfl, rfl, rfl⟩ (Or.inl rfl) <| X_add <| X_nil) rfl
  · rw [if_neg hc]
    refine Rn.jto rfl (X_i <| X_nil) ?_
    refine Rn.ri rfl (X_ist rfl (L' := [_, _, _, _]) rfl <| X_ild rfl <| X_ald rfl <| X_gr 6 0 hS.st ⟨rfl, rfl⟩ rfl rfl <| X_gi 1 8 8 hS.fl ⟨rfl, rfl, rfl⟩ (Or.inl rfl) <| X_add <| X_nil) rfl
/-- what getting up costs in the night foreseen -/
def errV (M : Nat → Int → Int) (b : Nat) : Int := if M (b + 26) 1 = -1 then 0 else (if M (b + 26) 2 = 0 then M (b + 16 + 2 * (M (b + 26) 1).toNat) 3 else 0) + M (b + 1) 8
def NiOk (M : Nat → Int → Int) (b : Nat) : Prop := (0 ≤ M (b + 26) 0 ∧ M (b + 26) 0 ≤ 300) ∧ (-1 ≤ M (b + 26) 1 ∧ M (b + 26) 1 < 4) ∧ (M (b + 26) 2 = 0 ∨ M (b + 26) 2 = 1)
theorem c_errand (hS : isSt T b) (hN : NiOk M b) : Cl S 59 [vR b] (T, M) (some (vI (errV M b)), (T, M)) := by
  obtain ⟨n1, n2, n3⟩ := hN
  refine ⟨_, rfl, ?_⟩
  unfold errV
  refine Rn.cne rfl (X_ald rfl <| X_gr 6 3 hS.st ⟨rfl, rfl⟩ rfl rfl <| X_gi 2 1 1 hS.ni ⟨rfl, rfl, rfl⟩ (Or.inl rfl) <| X_i <| X_nil) (by first | omega | (simp (disch := omega) only [um_eq, um_na, um_ni, Int.toNat_natCast]; omega)) (by first | omega | (simp (disch := omega) only [um_eq, um_na, um_ni, Int.toNat_natCast]; omega)) (fun hc => ?_) (fun hc => ?_)
  · rw [if_neg hc]
    have es : ((M (b + 26) 1).toNat : Int) = M (b + 26) 1 := by omega
    have ce := c_errandOf (S := S) (M := M) (s := (M (b + 26) 1).toNat) hS (by omega) n3
    rw [es] at ce
    refine Rn.cal rfl (X_ald rfl <| X_ald rfl <| X_gr 6 3 hS.st ⟨rfl, rfl⟩ rfl rfl <| X_gi 2 1 1 hS.ni ⟨rfl, rfl, rfl⟩ (Or.inl rfl) <| X_ald rfl <| X_gr 6 3 hS.st ⟨rfl, rfl⟩ rfl rfl <| X_gi 2 2 2 hS.ni ⟨rfl, rfl, rfl⟩ (Or.inr rfl) <| X_nil) (vs := [_, _, _]) (rest := []) rfl rfl rfl (rcv_v hS.st (by decide)) (ce) ?_
    refine Rn.ri rfl (X_nil) rfl
  · rw [if_pos hc]
    refine Rn.jto rfl (X_i <| X_nil) ?_
    refine Rn.ri rfl (X_nil) rfl
def costV (M : Nat → Int → Int) (b s : Nat) : Int := if M (b + 26) 1 = (s : Int) ∧ M (b + 1) 5 = 0 then lightC M (b + 16 + 2 * s) (M (b + 26) 0) + errV M b else lightC M (b + 16 + 2 * s) (M (b + 26) 0)
theorem c_cost {s : Nat} (hS : isSt T b) (hN : NiOk M b) (hs : s < 4) (ht : TrOk M (b + 16 + 2 * s)) (hc5 : 0 ≤ M (b + 1) 5 ∧ M (b + 1) 5 ≤ 1) : Cl S 58 [vR b, vI (s : Int)] (T, M) (some (vI (costV M b s)), (T, M)) := by
  obtain ⟨n1, n2, n3⟩ := id hN
  refine ⟨_, rfl, ?_⟩
  unfold costV
  refine Rn.cal rfl (X_ald rfl <| X_gr 6 1 hS.st ⟨rfl, rfl⟩ rfl rfl <| X_gr 0 0 hS.be ⟨rfl, rfl⟩ rfl rfl <| X_ild rfl <| X_aa hS.sl (by decide) (by first | omega | (simp (disch := omega) only [um_eq, um_na, um_ni, Int.toNat_natCast]; omega)) (by first | omega | (simp (disch := omega) only [um_eq, um_na, um_ni, Int.toNat_natCast]; omega)) rfl (rSl_at (by omega)) <| X_ald rfl <| X_gr 6 3 hS.st ⟨rfl, rfl⟩ rfl rfl <| X_gi 2 0 0 hS.ni ⟨rfl, rfl, rfl⟩ (Or.inl rfl) <| X_nil) (vs := [_, _]) (rest := []) rfl rfl rfl (rcv_v (hS.se (by omega)) (by decide)) (c_light hS hs ht n1.1 n1.2) ?_
  refine Rn.cne rfl (X_ist rfl (L' := [_, _, _, _]) rfl <| X_ald rfl <| X_gr 6 3 hS.st ⟨rfl, rfl⟩ rfl rfl <| X_gi 2 1 1 hS.ni ⟨rfl, rfl, rfl⟩ (Or.inl rfl) <| X_ild rfl <| X_nil) (by first | omega | (simp (disch := omega) only [um_eq, um_na, um_ni, Int.toNat_natCast]; omega)) (by first | omega | (simp (disch := omega) only [um_eq, um_na, um_ni, Int.toNat_natCast]; omega)) (fun hc => ?_) (fun hc => ?_)
  · rw [if_neg (fun z => hc z.1)]
    refine Rn.fal rfl (X_i <| X_nil) ?_
    refine Rn.ieq rfl (X_ist rfl (L' := [_, _, _, _]) rfl <| X_ild rfl <| X_nil) (by first | omega | (simp (disch := omega) only [um_eq, um_na, um_ni, Int.toNat_natCast]; omega)) (fun hc => ?_) (fun hc => ?_)
    · refine Rn.fal rfl (X_ild rfl <| X_nil) ?_
      refine Rn.ri rfl (X_nil) rfl
    · exact absurd rfl hc
  · have hc1 := hc
    refine Rn.ine rfl (X_ald rfl <| X_gr 6 0 hS.st ⟨rfl, rfl⟩ rfl rfl <| X_gi 1 5 5 hS.fl ⟨rfl, rfl, rfl⟩ (Or.inl rfl) <| X_nil) (by first | omega | (simp (disch := omega) only [um_eq, um_na, um_ni, Int.toNat_natCast]; omega)) (fun hc => ?_) (fun hc => ?_)
    · rw [if_neg (fun z => hc z.2)]
      refine Rn.fal rfl (X_i <| X_nil) ?_
      refine Rn.ieq rfl (X_ist rfl (L' := [_, _, _, _]) rfl <| X_ild rfl <| X_nil) (by first | omega | (simp (disch := omega) only [um_eq, um_na, um_ni, Int.toNat_natCast]; omega)) (fun hc => ?_) (fun hc => ?_)
      · refine Rn.fal rfl (X_ild rfl <| X_nil) ?_
        refine Rn.ri rfl (X_nil) rfl
      · exact absurd rfl hc
    · rw [if_pos ⟨hc1, hc⟩]
      refine Rn.jto rfl (X_i <| X_nil) ?_
      refine Rn.ieq rfl (X_ist rfl (L' := [_, _, _, _]) rfl <| X_ild rfl <| X_nil) (by first | omega | (simp (disch := omega) only [um_eq, um_na, um_ni, Int.toNat_natCast]; omega)) (fun hc => ?_) (fun hc => ?_)
      · exact absurd hc (by omega)
      · refine Rn.cal rfl (X_ild rfl <| X_ald rfl <| X_nil) (vs := [_]) (rest := [_]) rfl rfl rfl (rcv_v hS.st (by decide)) (c_errand hS hN) ?_
        refine Rn.jto rfl (X_add <| X_nil) ?_
        refine Rn.ri rfl (X_nil) rfl
end Walk
