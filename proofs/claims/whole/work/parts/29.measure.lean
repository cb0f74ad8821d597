/-! measureWaysTo: the ways from all cells, least -/
/-- two cells of a room w wide lie beside one another -/
def AdjC (w a d : Nat) : Prop := (a / w = d / w ∧ (a % w + 1 = d % w ∨ d % w + 1 = a % w)) ∨ (a % w = d % w ∧ (a / w + 1 = d / w ∨ d / w + 1 = a / w))
/-- what a step to cell a costs -/
def qN (M : Nat → Int → Int) (b w : Nat) (a : Nat) : Int := qI M b ((a % w : Nat) : Int) ((a / w : Nat) : Int)
theorem qI_cg {M N : Nat → Int → Int} {b : Nat} {x y : Int} (h1 : N (b + 1) = M (b + 1)) (h2 : N (b + 2) = M (b + 2)) : qI N b x y = qI M b x y := by
  unfold qI
  rw [h1, h2]
theorem idx_mod {w x y : Nat} (h : x < w) : (x + w * y) % w = x := by rw [Nat.add_mul_mod_self_left, Nat.mod_eq_of_lt h]
theorem idx_div {w x y : Nat} (h : x < w) : (x + w * y) / w = y := by rw [Nat.add_mul_div_left _ _ (by omega), Nat.div_eq_of_lt h, Nat.zero_add]
theorem idx_of {w a : Nat} : a = a % w + w * (a / w) := (Nat.mod_add_div a w).symm
theorem or01 {s v : Int} (hs : s = 0 ∨ s = 1) (hv : v = 0 ∨ v = 1) : o_or s v = if s = 0 ∧ v = 0 then 0 else 1 := by
  rcases hs with rfl | rfl <;> rcases hv with rfl | rfl <;> decide
section Measure
variable {S : List Int} {T : List Sh} {M : Nat → Int → Int} {b : Nat} {h : Hp}
/-- the least over the neighbours is no more than any neighbour's -/
theorem shV_le {N : Nat → Int → Int} {w x y d hh : Nat} (e0 : N (b + 1) 0 = (w : Int)) (e1 : N (b + 1) 1 = (hh : Int)) (hx : x < w) (hd : d < w * hh) (hA : AdjC w (x + w * y) d) : shV N b x y ≤ qN N b w d + N (b + 3) (d : Int) := by
  unfold AdjC at hA
  rw [idx_mod hx, idx_div hx] at hA
  have hw : 0 < w := by omega
  have du : d % w < w := Nat.mod_lt _ hw
  have dv : d / w < hh := Nat.div_lt_of_lt_mul hd
  have di : (d : Int) = ((d % w : Nat) : Int) + N (b + 1) 0 * ((d / w : Nat) : Int) := by
    rw [e0]
    have := idx_of (w := w) (a := d)
    exact_mod_cast this
  rw [di]
  unfold qN shV
  generalize hv0 : N (b + 3) ((x : Int) + N (b + 1) 0 * (y : Int)) = v0
  generalize hm1 : minIf (0 < (x : Int)) v0 (qI N b ((x : Int) - 1) y + N (b + 3) ((x : Int) - 1 + N (b + 1) 0 * (y : Int))) = m1
  generalize hm2 : minIf ((x : Int) < N (b + 1) 0 - 1) m1 (qI N b ((x : Int) + 1) y + N (b + 3) ((x : Int) + 1 + N (b + 1) 0 * (y : Int))) = m2
  generalize hm3 : minIf (0 < (y : Int)) m2 (qI N b x ((y : Int) - 1) + N (b + 3) ((x : Int) + N (b + 1) 0 * ((y : Int) - 1))) = m3
  have g1 := minIf_le (p := 0 < (x : Int)) (v := v0) (o := qI N b ((x : Int) - 1) y + N (b + 3) ((x : Int) - 1 + N (b + 1) 0 * (y : Int)))
  have g2 := minIf_le (p := (x : Int) < N (b + 1) 0 - 1) (v := m1) (o := qI N b ((x : Int) + 1) y + N (b + 3) ((x : Int) + 1 + N (b + 1) 0 * (y : Int)))
  have g3 := minIf_le (p := 0 < (y : Int)) (v := m2) (o := qI N b x ((y : Int) - 1) + N (b + 3) ((x : Int) + N (b + 1) 0 * ((y : Int) - 1)))
  have g4 := minIf_le (p := (y : Int) < N (b + 1) 1 - 1) (v := m3) (o := qI N b x ((y : Int) + 1) + N (b + 3) ((x : Int) + N (b + 1) 0 * ((y : Int) + 1)))
  rw [hm1] at g1
  rw [hm2] at g2
  rw [hm3] at g3
  have l4 := g4.1
  have l3 := g3.1
  have l2 := g2.1
  rcases hA with ⟨h1, h2 | h2⟩ | ⟨h1, h2 | h2⟩
  · have ex : ((d % w : Nat) : Int) = (x : Int) + 1 := by omega
    have ey : ((d / w : Nat) : Int) = (y : Int) := by omega
    rw [ex, ey]
    have := g2.2.1 (by rw [e0]; omega)
    omega
  · have ex : ((d % w : Nat) : Int) = (x : Int) - 1 := by omega
    have ey : ((d / w : Nat) : Int) = (y : Int) := by omega
    rw [ex, ey]
    have := g1.2.1 (by omega)
    omega
  · have ex : ((d % w : Nat) : Int) = (x : Int) := by omega
    have ey : ((d / w : Nat) : Int) = (y : Int) + 1 := by omega
    rw [ex, ey]
    exact g4.2.1 (by rw [e1]; omega)
  · have ex : ((d % w : Nat) : Int) = (x : Int) := by omega
    have ey : ((d / w : Nat) : Int) = (y : Int) - 1 := by omega
    have hy0 : 0 < y := by rw [← h2]; exact Nat.succ_pos _
    rw [ex, ey]
    have := g3.2.1 (by exact_mod_cast hy0)
    omega
/-- it is the way that stood, or that over a neighbour -/
theorem shV_at {N : Nat → Int → Int} {w x y hh : Nat} (e0 : N (b + 1) 0 = (w : Int)) (e1 : N (b + 1) 1 = (hh : Int)) (hx : x < w) (hy : y < hh) : shV N b x y = N (b + 3) ((x + w * y : Nat) : Int) ∨ ∃ d, d < w * hh ∧ AdjC w (x + w * y) d ∧ shV N b x y = qN N b w d + N (b + 3) (d : Int) := by
  have hw : 0 < w := by omega
  have ecell : ((x + w * y : Nat) : Int) = (x : Int) + N (b + 1) 0 * (y : Int) := by rw [e0]; exact_mod_cast rfl
  have cand : ∀ u v : Nat, u < w → v < hh → ((y = v ∧ (x + 1 = u ∨ u + 1 = x)) ∨ (x = u ∧ (y + 1 = v ∨ v + 1 = y))) → ∀ z : Int, z = qI N b u v + N (b + 3) ((u : Int) + N (b + 1) 0 * (v : Int)) → ∃ d, d < w * hh ∧ AdjC w (x + w * y) d ∧ z = qN N b w d + N (b + 3) (d : Int) := by
    intro u v hu hv hA z hz
    refine ⟨u + w * v, ?_, ?_, ?_⟩
    · have : w * (v + 1) ≤ w * hh := Nat.mul_le_mul_left w hv
      rw [Nat.mul_add, Nat.mul_one] at this
      omega
    · unfold AdjC
      rw [idx_mod hx, idx_div hx, idx_mod hu, idx_div hu]
      exact hA
    · unfold qN
      rw [idx_mod hu, idx_div hu, hz, e0]
      have : ((u + w * v : Nat) : Int) = (u : Int) + (w : Int) * (v : Int) := by exact_mod_cast rfl
      rw [this]
  rw [ecell]
  unfold shV
  generalize hv0 : N (b + 3) ((x : Int) + N (b + 1) 0 * (y : Int)) = v0
  generalize hm1 : minIf (0 < (x : Int)) v0 (qI N b ((x : Int) - 1) y + N (b + 3) ((x : Int) - 1 + N (b + 1) 0 * (y : Int))) = m1
  generalize hm2 : minIf ((x : Int) < N (b + 1) 0 - 1) m1 (qI N b ((x : Int) + 1) y + N (b + 3) ((x : Int) + 1 + N (b + 1) 0 * (y : Int))) = m2
  generalize hm3 : minIf (0 < (y : Int)) m2 (qI N b x ((y : Int) - 1) + N (b + 3) ((x : Int) + N (b + 1) 0 * ((y : Int) - 1))) = m3
  have g1 := minIf_le (p := 0 < (x : Int)) (v := v0) (o := qI N b ((x : Int) - 1) y + N (b + 3) ((x : Int) - 1 + N (b + 1) 0 * (y : Int)))
  have g2 := minIf_le (p := (x : Int) < N (b + 1) 0 - 1) (v := m1) (o := qI N b ((x : Int) + 1) y + N (b + 3) ((x : Int) + 1 + N (b + 1) 0 * (y : Int)))
  have g3 := minIf_le (p := 0 < (y : Int)) (v := m2) (o := qI N b x ((y : Int) - 1) + N (b + 3) ((x : Int) + N (b + 1) 0 * ((y : Int) - 1)))
  have g4 := minIf_le (p := (y : Int) < N (b + 1) 1 - 1) (v := m3) (o := qI N b x ((y : Int) + 1) + N (b + 3) ((x : Int) + N (b + 1) 0 * ((y : Int) + 1)))
  rw [hm1] at g1
  rw [hm2] at g2
  rw [hm3] at g3
  have c1 : (x : Int) - 1 = ((x - 1 : Nat) : Int) ∨ x = 0 := by omega
  have c3 : (y : Int) - 1 = ((y - 1 : Nat) : Int) ∨ y = 0 := by omega
  have c2 : (x : Int) + 1 = ((x + 1 : Nat) : Int) := by omega
  have c4 : (y : Int) + 1 = ((y + 1 : Nat) : Int) := by omega
  rcases g4.2.2 with e | ⟨hp, e⟩
  · rw [e]
    rcases g3.2.2 with e | ⟨hp, e⟩
    · rw [e]
      rcases g2.2.2 with e | ⟨hp, e⟩
      · rw [e]
        rcases g1.2.2 with e | ⟨hp, e⟩
        · exact Or.inl e
        · right
          rcases c1 with c1 | c1
          · rw [c1] at e
            exact cand (x - 1) y (by omega) hy (Or.inl ⟨rfl, Or.inr (by omega)⟩) _ e
          · omega
      · right
        rw [c2] at e
        exact cand (x + 1) y (by rw [e0] at hp; omega) hy (Or.inl ⟨rfl, Or.inl rfl⟩) _ e
    · right
      rcases c3 with c3 | c3
      · rw [c3] at e
        exact cand x (y - 1) hx (by omega) (Or.inr ⟨rfl, Or.inr (by omega)⟩) _ e
      · omega
  · right
    rw [c4] at e
    exact cand x (y + 1) hx (by rw [e1] at hp; omega) (Or.inr ⟨rfl, Or.inl rfl⟩) _ e
/-- what Floor.measureWaysTo leaves: the least ways from all cells to e -/
def IsW (M : Nat → Int → Int) (b w hh e : Nat) (D : Nat → Int) : Prop := Rl (w * hh) (AdjC w) (qN M b w) e D ∧ Fx (w * hh) (AdjC w) (qN M b w) D
theorem qN_ge {w hh : Nat} (hf : FlOk M b) (e0 : M (b + 1) 0 = (w : Int)) (e1 : M (b + 1) 1 = (hh : Int)) : ∀ d, d < w * hh → 2 ≤ qN M b w d ∧ qN M b w d ≤ 11 := by
  intro d hd
  have hw : 0 < w := by have := hf.1; omega
  have du : d % w < w := Nat.mod_lt _ hw
  have dv : d / w < hh := Nat.div_lt_of_lt_mul hd
  exact qI_in hf (Int.natCast_nonneg _) (by rw [e0]; exact_mod_cast du) (Int.natCast_nonneg _) (by rw [e1]; exact_mod_cast dv)
theorem Rl_put {n : Nat} {A : Nat → Nat → Prop} {q : Nat → Int} {e : Nat} (hq : ∀ d, d < n → 2 ≤ q d) {D : Nat → Int} (h : Rl n A q e D) {a : Nat} {v : Int} (ha : a < n) (hv : v = D a ∨ ∃ d, d < n ∧ A a d ∧ v = q d + D d) (hle : v ≤ D a) : Rl n A q e (upD D a v) := by
  rcases hv with hv | ⟨d, hd, hA, hv⟩
  · have : upD D a v = D := by
      funext x
      unfold upD
      split
      · rename_i e; rw [e, hv]
      · rfl
    rw [this]
    exact h
  · by_cases hl : v < D a
    · rw [hv] at hl ⊢
      exact Rl_up hq h ha hd hA hl
    · have : upD D a v = D := by
        funext x
        unfold upD
        split
        · rename_i e; rw [e]; omega
        · rfl
      rw [this]
      exact h
theorem c_measure {w hh e : Nat} (hS : isSt T b) (hf : FlOk M b) (e0 : M (b + 1) 0 = (w : Int)) (e1 : M (b + 1) 1 = (hh : Int)) (he : e < w * hh) : ∃ M', Cl S 24 [vR (b + 1), vI (e : Int)] (T, M) (none, (T, M')) ∧ (∀ a, a ≠ b + 3 → M' a = M a) ∧ IsW M b w hh e (fun a => M' (b + 3) (a : Int)) := by
  have hq := qN_ge hf e0 e1
  have hq2 : ∀ d, d < w * hh → 2 ≤ qN M b w d := fun d hd => (hq d hd).1
  have hn := hf.n
  have enn : M (b + 1) 0 * M (b + 1) 1 = ((w * hh : Nat) : Int) := by rw [e0, e1]; exact_mod_cast rfl
  have hn49 : w * hh ≤ 49 := by rw [enn] at hn; omega
  have hw0 : 0 < w := by have := hf.1; omega
  obtain ⟨E, hE, hEf⟩ := Fx_ex (n := w * hh) (A := AdjC w) (q := qN M b w) (e := e) hq2
  -- memories that differ from M in the ways alone
  have cgF : ∀ N : Nat → Int → Int, (∀ a, a ≠ b + 3 → N a = M a) → FlOk N b := by
    intro N hN
    have h1 : N (b + 1) = M (b + 1) := hN _ (by omega)
    have h2 : N (b + 2) = M (b + 2) := hN _ (by omega)
    unfold FlOk
    rw [h1, h2]
    exact hf
  have cgq : ∀ N : Nat → Int → Int, (∀ a, a ≠ b + 3 → N a = M a) → qN N b w = qN M b w := by
    intro N hN
    funext a
    exact qI_cg (hN _ (by omega)) (hN _ (by omega))
  -- one cell in a round
  have cell : ∀ (N : Nat → Int → Int) (D0 : Nat → Int) (x y : Nat), (∀ a, a ≠ b + 3 → N a = M a) → (∀ c, 0 ≤ c → c < 49 → 0 ≤ N (b + 3) c ∧ N (b + 3) c ≤ Big) → x < w → y < hh → Rl (w * hh) (AdjC w) (qN M b w) e (fun a => N (b + 3) (a : Int)) → (∀ a, a < w * hh → N (b + 3) (a : Int) ≤ D0 a) → (∀ c, c < x + w * y → ∀ d, d < w * hh → AdjC w c d → N (b + 3) (c : Int) ≤ qN M b w d + D0 d) →
      (∀ a, a ≠ b + 3 → um N (b + 3) ((x : Int) + N (b + 1) 0 * (y : Int)) (shV N b x y) a = M a) ∧ (∀ c, 0 ≤ c → c < 49 → 0 ≤ um N (b + 3) ((x : Int) + N (b + 1) 0 * (y : Int)) (shV N b x y) (b + 3) c ∧ um N (b + 3) ((x : Int) + N (b + 1) 0 * (y : Int)) (shV N b x y) (b + 3) c ≤ Big) ∧ Rl (w * hh) (AdjC w) (qN M b w) e (fun a => um N (b + 3) ((x : Int) + N (b + 1) 0 * (y : Int)) (shV N b x y) (b + 3) (a : Int)) ∧ (∀ a, a < w * hh → um N (b + 3) ((x : Int) + N (b + 1) 0 * (y : Int)) (shV N b x y) (b + 3) (a : Int) ≤ D0 a) ∧ (∀ c, c < x + 1 + w * y → ∀ d, d < w * hh → AdjC w c d → um N (b + 3) ((x : Int) + N (b + 1) 0 * (y : Int)) (shV N b x y) (b + 3) (c : Int) ≤ qN M b w d + D0 d) := by
    intro N D0 x y hN hW hx hy hR hle hs
    have f0 : N (b + 1) 0 = (w : Int) := by rw [hN _ (by omega)]; exact e0
    have f1 : N (b + 1) 1 = (hh : Int) := by rw [hN _ (by omega)]; exact e1
    have ec : (x : Int) + N (b + 1) 0 * (y : Int) = ((x + w * y : Nat) : Int) := by rw [f0]; exact_mod_cast rfl
    have hc : x + w * y < w * hh := by
      have : w * (y + 1) ≤ w * hh := Nat.mul_le_mul_left w hy
      rw [Nat.mul_add, Nat.mul_one] at this
      omega
    rw [ec]
    have g1 := shV_at (b := b) f0 f1 hx hy
    have g2 : ∀ d, d < w * hh → AdjC w (x + w * y) d → shV N b x y ≤ qN M b w d + N (b + 3) (d : Int) := fun d hd hA => by
      have := shV_le (b := b) f0 f1 hx hd hA
      rw [cgq N hN] at this
      exact this
    rw [cgq N hN] at g1
    have g3 : shV N b x y ≤ N (b + 3) ((x + w * y : Nat) : Int) := by
      rw [← ec]
      unfold shV
      exact Int.le_trans minIf_le.1 (Int.le_trans minIf_le.1 (Int.le_trans minIf_le.1 minIf_le.1))
    have eU : (fun a : Nat => um N (b + 3) ((x + w * y : Nat) : Int) (shV N b x y) (b + 3) (a : Int)) = upD (fun a : Nat => N (b + 3) (a : Int)) (x + w * y) (shV N b x y) := by
      funext a
      unfold upD
      by_cases ea : a = x + w * y
      · rw [if_pos ea, ea, um_eq]
      · rw [if_neg ea, um_ni (by omega)]
    have hR' := Rl_put hq2 hR hc g1 g3
    have hv0 : 0 ≤ shV N b x y := by
      have := Rl_ge hq2 hR' hc
      unfold upD at this
      rw [if_pos rfl] at this
      exact this
    refine ⟨fun a ha => by rw [um_fn ha]; exact hN a ha, fun c c0 c1 => ?_, by rw [eU]; exact hR', fun a ha => ?_, fun c hcc d hd hA => ?_⟩
    · by_cases ea : c = ((x + w * y : Nat) : Int)
      · rw [ea, um_eq]
        have := hW ((x + w * y : Nat) : Int) (by omega) (by omega)
        omega
      · rw [um_ni ea]
        exact hW c c0 c1
    · by_cases ea : a = x + w * y
      · rw [ea, um_eq]
        have := hle (x + w * y) hc
        omega
      · rw [um_ni (by omega)]
        exact hle a ha
    · by_cases ea : c = x + w * y
      · subst ea
        rw [um_eq]
        have := g2 d hd hA
        have := hle d hd
        omega
      · rw [um_ni (by omega)]
        exact hs c (by omega) d hd hA
  -- a whole round, as the machine does it: from cell i on
  let Inv : (Nat → Int) → Nat → (Nat → Int → Int) → Int → Prop := fun D0 i N s => (∀ a, a ≠ b + 3 → N a = M a) ∧ (∀ c, 0 ≤ c → c < 49 → 0 ≤ N (b + 3) c ∧ N (b + 3) c ≤ Big) ∧ Rl (w * hh) (AdjC w) (qN M b w) e (fun a => N (b + 3) (a : Int)) ∧ (∀ a, a < w * hh → N (b + 3) (a : Int) ≤ D0 a) ∧ (∀ c, c < i → ∀ d, d < w * hh → AdjC w c d → N (b + 3) (c : Int) ≤ qN M b w d + D0 d) ∧ (s = 0 ∨ s = 1) ∧ (s = 0 → ∀ a, a < w * hh → N (b + 3) (a : Int) = D0 a)
  let Post : (Nat → Int → Int) → Prop := fun M' => (∀ a, a ≠ b + 3 → M' a = M a) ∧ IsW M b w hh e (fun a => M' (b + 3) (a : Int))
  have inner : ∀ (D0 : Nat → Int) (rd y : Nat), y < hh → (∀ N s, Inv D0 (w + w * y) N s → ∃ M', Rn S 24 84 ([], [some (vR (b + 1)), some (vI (e : Int)), some (vI ((w * hh : Nat) : Int)), some (vI s), some (vI (rd : Int)), some (vI (y : Int)), some (vI (w : Int))], T, N) (none, (T, M')) ∧ Post M') →
      ∀ (k x : Nat) (N : Nat → Int → Int) (s : Int), x + k = w → Inv D0 (x + w * y) N s → ∃ M', Rn S 24 58 ([], [some (vR (b + 1)), some (vI (e : Int)), some (vI ((w * hh : Nat) : Int)), some (vI s), some (vI (rd : Int)), some (vI (y : Int)), some (vI (x : Int))], T, N) (none, (T, M')) ∧ Post M' := by
    intro D0 rd y hy K k
    have hH := hf.2.1
    have hWd := hf.1
    rw [e1] at hH
    rw [e0] at hWd
    induction k with
    | zero =>
      intro x N s hx hI
      have ex : x = w := by omega
      subst ex
      obtain ⟨M', r1, r2⟩ := K N s hI
      refine ⟨M', ?_, r2⟩
      have f0 : N (b + 1) 0 = (x : Int) := by rw [hI.1 _ (by omega)]; exact e0
      refine Rn.cge rfl (X_ild rfl <| X_ald rfl <| X_gi 1 0 0 hS.fl ⟨rfl, rfl, rfl⟩ (Or.inl rfl) <| X_nil) (by first | omega | (simp (disch := omega) only [um_eq, um_na, um_ni, Int.toNat_natCast]; omega)) (by rw [f0]; omega) (fun hc => ?_) (fun hc => ?_)
      · exact r1
      · rw [f0] at hc
        exact absurd hc (by omega)
    | succ k ih =>
      intro x N s hx hI
      obtain ⟨i1, i2, i3, i4, i5, i6, i7⟩ := id hI
      have hxw : x < w := by omega
      have f0 : N (b + 1) 0 = (w : Int) := by rw [i1 _ (by omega)]; exact e0
      have f1 : N (b + 1) 1 = (hh : Int) := by rw [i1 _ (by omega)]; exact e1
      obtain ⟨j1, j2, j3, j4, j5⟩ := cell N D0 x y i1 i2 hxw hy i3 i4 i5
      have cs := c_shorten (S := S) (M := N) (x := (x : Int)) (y := (y : Int)) hS (cgF N i1) i2 (by omega) (by rw [f0]; omega) (by omega) (by rw [f1]; omega)
      have ec : (x : Int) + N (b + 1) 0 * (y : Int) = ((x + w * y : Nat) : Int) := by rw [f0]; exact_mod_cast rfl
      have g3 : shV N b x y ≤ N (b + 3) ((x : Int) + N (b + 1) 0 * (y : Int)) := by
        unfold shV
        exact Int.le_trans minIf_le.1 (Int.le_trans minIf_le.1 (Int.le_trans minIf_le.1 minIf_le.1))
      generalize hfl : (if shV N b x y < N (b + 3) ((x : Int) + N (b + 1) 0 * (y : Int)) then (1 : Int) else 0) = fl at cs
      have hfl01 : fl = 0 ∨ fl = 1 := by rw [← hfl]; split <;> simp
      have hI' : Inv D0 (x + 1 + w * y) (um N (b + 3) ((x : Int) + N (b + 1) 0 * (y : Int)) (shV N b x y)) (o_or s fl) := by
        refine ⟨j1, j2, j3, j4, j5, ?_, ?_⟩
        · rw [or01 i6 hfl01]
          split <;> simp
        · rw [or01 i6 hfl01]
          intro h0
          have h1 : s = 0 ∧ fl = 0 := by
            by_cases h : s = 0 ∧ fl = 0
            · exact h
            · rw [if_neg h] at h0
              cases h0
          have h2 : shV N b x y = N (b + 3) ((x : Int) + N (b + 1) 0 * (y : Int)) := by
            have h3 := h1.2
            rw [← hfl] at h3
            by_cases h4 : shV N b x y < N (b + 3) ((x : Int) + N (b + 1) 0 * (y : Int))
            · rw [if_pos h4] at h3
              cases h3
            · omega
          intro a ha
          rw [ec] at h2 ⊢
          by_cases ea : (a : Int) = ((x + w * y : Nat) : Int)
          · rw [ea, um_eq, h2, ← ea]
            exact i7 h1.1 a ha
          · rw [um_ni ea]
            exact i7 h1.1 a ha
      obtain ⟨M', r1, r2⟩ := ih (x + 1) _ _ (by omega) hI'
      refine ⟨M', ?_, r2⟩
      refine Rn.cge rfl (X_ild rfl <| X_ald rfl <| X_gi 1 0 0 hS.fl ⟨rfl, rfl, rfl⟩ (Or.inl rfl) <| X_nil) (by first | omega | (simp (disch := omega) only [um_eq, um_na, um_ni, Int.toNat_natCast]; omega)) (by rw [f0]; omega) (fun hc => ?_) (fun hc => ?_)
      · rw [f0] at hc
        exact absurd hc (by omega)
      · refine Rn.cal rfl (X_ild rfl <| X_ald rfl <| X_ild rfl <| X_ild rfl <| X_nil) (vs := [_, _, _]) (rest := [_]) rfl rfl rfl (rcv_v hS.fl (by decide)) (cs) ?_
        refine Rn.jto rfl (X_or <| X_ist rfl (L' := [_, _, _, _, _, _, _]) rfl <| X_inc rfl (L' := [_, _, _, _, _, _, _]) rfl <| X_nil) ?_
        exact r1
  have mid : ∀ (D0 : Nat → Int) (rd : Nat), (∀ N s x6, Inv D0 (w * hh) N s → ∃ M', Rn S 24 90 ([], [some (vR (b + 1)), some (vI (e : Int)), some (vI ((w * hh : Nat) : Int)), some (vI s), some (vI (rd : Int)), some (vI (hh : Int)), x6], T, N) (none, (T, M')) ∧ Post M') →
      ∀ (k y : Nat) (N : Nat → Int → Int) (s : Int) (x6 : Option AV), y + k = hh → Inv D0 (w * y) N s → ∃ M', Rn S 24 46 ([], [some (vR (b + 1)), some (vI (e : Int)), some (vI ((w * hh : Nat) : Int)), some (vI s), some (vI (rd : Int)), some (vI (y : Int)), x6], T, N) (none, (T, M')) ∧ Post M' := by
    intro D0 rd K k
    have hH := hf.2.1
    rw [e1] at hH
    induction k with
    | zero =>
      intro y N s x6 hy hI
      have ey : y = hh := by omega
      subst ey
      obtain ⟨M', r1, r2⟩ := K N s x6 hI
      refine ⟨M', ?_, r2⟩
      have f1 : N (b + 1) 1 = (y : Int) := by rw [hI.1 _ (by omega)]; exact e1
      refine Rn.cge rfl (X_ild rfl <| X_ald rfl <| X_gi 1 1 1 hS.fl ⟨rfl, rfl, rfl⟩ (Or.inl rfl) <| X_nil) (by first | omega | (simp (disch := omega) only [um_eq, um_na, um_ni, Int.toNat_natCast]; omega)) (by rw [f1]; omega) (fun hc => ?_) (fun hc => ?_)
      · exact r1
      · rw [f1] at hc
        exact absurd hc (by omega)
    | succ k ih =>
      intro y N s x6 hy hI
      have f1 : N (b + 1) 1 = (hh : Int) := by rw [hI.1 _ (by omega)]; exact e1
      have K2 : ∀ N s, Inv D0 (w + w * y) N s → ∃ M', Rn S 24 84 ([], [some (vR (b + 1)), some (vI (e : Int)), some (vI ((w * hh : Nat) : Int)), some (vI s), some (vI (rd : Int)), some (vI (y : Int)), some (vI (w : Int))], T, N) (none, (T, M')) ∧ Post M' := by
        intro N s hI
        have ei : w + w * y = w * (y + 1) := by rw [Nat.mul_add, Nat.mul_one, Nat.add_comm]
        rw [ei] at hI
        obtain ⟨M', r1, r2⟩ := ih (y + 1) N s _ (by omega) hI
        refine ⟨M', ?_, r2⟩
        refine Rn.jto rfl (X_inc rfl (L' := [_, _, _, _, _, _, _]) rfl <| X_nil) ?_
        exact r1
      obtain ⟨M', r1, r2⟩ := inner D0 rd y (by omega) K2 w 0 N s (by omega) (by rw [Nat.zero_add]; exact hI)
      refine ⟨M', ?_, r2⟩
      refine Rn.cge rfl (X_ild rfl <| X_ald rfl <| X_gi 1 1 1 hS.fl ⟨rfl, rfl, rfl⟩ (Or.inl rfl) <| X_nil) (by first | omega | (simp (disch := omega) only [um_eq, um_na, um_ni, Int.toNat_natCast]; omega)) (by rw [f1]; omega) (fun hc => ?_) (fun hc => ?_)
      · rw [f1] at hc
        exact absurd hc (by omega)
      · refine Rn.fal rfl (X_i <| X_ist rfl (L' := [_, _, _, _, _, _, _]) rfl <| X_nil) ?_
        exact r1
  -- the rounds
  have fin : ∀ (N : Nat → Int → Int), (∀ a, a ≠ b + 3 → N a = M a) → Rl (w * hh) (AdjC w) (qN M b w) e (fun a => N (b + 3) (a : Int)) → Fx (w * hh) (AdjC w) (qN M b w) (fun a => N (b + 3) (a : Int)) → ∀ L, ∃ M', Rn S 24 96 ([], L, T, N) (none, (T, M')) ∧ Post M' := by
    intro N hN hR hF L
    refine ⟨N, ?_, hN, hR, hF⟩
    exact Rn.rv rfl X_nil rfl
  have rounds : ∀ (k rd : Nat) (N : Nat → Int → Int) (s : Int) (x5 x6 : Option AV), rd + k = w * hh → (∀ a, a ≠ b + 3 → N a = M a) → (∀ c, 0 ≤ c → c < 49 → 0 ≤ N (b + 3) c ∧ N (b + 3) c ≤ Big) → Rl (w * hh) (AdjC w) (qN M b w) e (fun a => N (b + 3) (a : Int)) → (s = 0 ∨ s = 1) → (s = 0 → Fx (w * hh) (AdjC w) (qN M b w) (fun a => N (b + 3) (a : Int))) → cnt (uns (fun a => N (b + 3) (a : Int)) E) (w * hh) ≤ w * hh - 1 - rd →
      ∃ M', Rn S 24 31 ([], [some (vR (b + 1)), some (vI (e : Int)), some (vI ((w * hh : Nat) : Int)), some (vI s), some (vI (rd : Int)), x5, x6], T, N) (none, (T, M')) ∧ Post M' := by
    intro k
    induction k with
    | zero =>
      intro rd N s x5 x6 hk hN hW hR hs hF hc0
      have hz : cnt (uns (fun a => N (b + 3) (a : Int)) E) (w * hh) = 0 := by omega
      have hall := cnt_zero _ hz
      have hF2 : Fx (w * hh) (AdjC w) (qN M b w) (fun a => N (b + 3) (a : Int)) := by
        intro a d ha hd hA
        have q1 : N (b + 3) (a : Int) = E a := Decidable.of_not_not (of_decide_eq_false (hall a ha))
        have q2 : N (b + 3) (d : Int) = E d := Decidable.of_not_not (of_decide_eq_false (hall d hd))
        show N (b + 3) (a : Int) ≤ qN M b w d + N (b + 3) (d : Int)
        rw [q1, q2]
        exact hEf a d ha hd hA
      obtain ⟨M', r1, r2⟩ := fin N hN hR hF2 _
      refine ⟨M', ?_, r2⟩
      refine Rn.cge rfl (X_ild rfl <| X_ild rfl <| X_nil) (by first | omega | (simp (disch := omega) only [um_eq, um_na, um_ni, Int.toNat_natCast]; omega)) (by first | omega | (simp (disch := omega) only [um_eq, um_na, um_ni, Int.toNat_natCast]; omega)) (fun hc => ?_) (fun hc => ?_)
      · exact r1
      · exact absurd hc (by omega)
    | succ k ih =>
      intro rd N s x5 x6 hk hN hW hR hs hF hc0
      rcases hs with hs | hs
      · obtain ⟨M', r1, r2⟩ := fin N hN hR (hF hs) _
        refine ⟨M', ?_, r2⟩
        refine Rn.cge rfl (X_ild rfl <| X_ild rfl <| X_nil) (by first | omega | (simp (disch := omega) only [um_eq, um_na, um_ni, Int.toNat_natCast]; omega)) (by first | omega | (simp (disch := omega) only [um_eq, um_na, um_ni, Int.toNat_natCast]; omega)) (fun hc => ?_) (fun hc => ?_)
        · exact absurd hc (by omega)
        · refine Rn.ieq rfl (X_ild rfl <| X_nil) (by first | omega | (simp (disch := omega) only [um_eq, um_na, um_ni, Int.toNat_natCast]; omega)) (fun hc => ?_) (fun hc => ?_)
          · exact r1
          · exact absurd hs hc
      · have K : ∀ N' s' x6, Inv (fun a => N (b + 3) (a : Int)) (w * hh) N' s' → ∃ M', Rn S 24 90 ([], [some (vR (b + 1)), some (vI (e : Int)), some (vI ((w * hh : Nat) : Int)), some (vI s'), some (vI (rd : Int)), some (vI (hh : Int)), x6], T, N') (none, (T, M')) ∧ Post M' := by
          intro N' s' x6 hI
          obtain ⟨i1, i2, i3, i4, i5, i6, i7⟩ := hI
          have hless := round_less hq2 hE hEf hR i3 i4 (fun c d h1 h2 h3 => i5 c h1 d h2 h3)
          have hcn : cnt (uns (fun a => N' (b + 3) (a : Int)) E) (w * hh) ≤ w * hh - 1 - (rd + 1) := by
            rcases hless with h1 | h1
            · omega
            · have hall := cnt_zero _ h1
              have : cnt (uns (fun a => N' (b + 3) (a : Int)) E) (w * hh) ≤ cnt (uns (fun a => N (b + 3) (a : Int)) E) (w * hh) := cnt_le _ (fun a ha h2 => by
                have q1 : N (b + 3) (a : Int) = E a := Decidable.of_not_not (of_decide_eq_false (hall a ha))
                have q2 : N' (b + 3) (a : Int) ≤ N (b + 3) (a : Int) := i4 a ha
                have q3 : E a ≤ N' (b + 3) (a : Int) := Fx_least hE hEf i3 ha
                have q4 : N' (b + 3) (a : Int) ≠ E a := of_decide_eq_true h2
                omega)
              omega
          have hfx : s' = 0 → Fx (w * hh) (AdjC w) (qN M b w) (fun a => N' (b + 3) (a : Int)) := by
            intro h0 a d ha hd hA
            have q1 := i7 h0 d hd
            have q2 := i5 a ha d hd hA
            show N' (b + 3) (a : Int) ≤ qN M b w d + N' (b + 3) (d : Int)
            rw [q1]
            exact q2
          obtain ⟨M', r1, r2⟩ := ih (rd + 1) N' s' _ x6 (by omega) i1 i2 i3 i6 hfx hcn
          refine ⟨M', ?_, r2⟩
          refine Rn.jto rfl (X_inc rfl (L' := [_, _, _, _, _, _, _]) rfl <| X_nil) ?_
          exact r1
        obtain ⟨M', r1, r2⟩ := mid (fun a => N (b + 3) (a : Int)) rd K hh 0 N 0 x6 (by omega) ⟨hN, hW, hR, fun a _ => Int.le_refl _, fun c hc => absurd hc (by rw [Nat.mul_zero]; omega), Or.inl rfl, fun _ a _ => rfl⟩
        refine ⟨M', ?_, r2⟩
        refine Rn.cge rfl (X_ild rfl <| X_ild rfl <| X_nil) (by first | omega | (simp (disch := omega) only [um_eq, um_na, um_ni, Int.toNat_natCast]; omega)) (by first | omega | (simp (disch := omega) only [um_eq, um_na, um_ni, Int.toNat_natCast]; omega)) (fun hc => ?_) (fun hc => ?_)
        · exact absurd hc (by omega)
        · refine Rn.ieq rfl (X_ild rfl <| X_nil) (by first | omega | (simp (disch := omega) only [um_eq, um_na, um_ni, Int.toNat_natCast]; omega)) (fun hc => ?_) (fun hc => ?_)
          · exact absurd hc (by omega)
          · refine Rn.fal rfl (X_i <| X_ist rfl (L' := [_, _, _, _, _, _, _]) rfl <| X_i <| X_ist rfl (L' := [_, _, _, _, _, _, _]) rfl <| X_nil) ?_
            exact r1
  have hw3 : ∀ a, a ≠ b + 3 → um (fillM M (b + 3) 49 Big) (b + 3) (e : Int) 0 a = M a := fun a ha => by rw [um_fn ha, fillM_fn ha]
  have hD : ∀ a : Nat, a < 49 → um (fillM M (b + 3) 49 Big) (b + 3) (e : Int) 0 (b + 3) (a : Int) = ini0 e a := by
    intro a ha
    unfold ini0
    by_cases ea : a = e
    · rw [if_pos ea, ea, um_eq]
    · rw [if_neg ea, um_ni (by omega), fillM_in (by omega) (by omega)]
  have hR0 : Rl (w * hh) (AdjC w) (qN M b w) e (fun a => um (fillM M (b + 3) 49 Big) (b + 3) (e : Int) 0 (b + 3) (a : Int)) := by
    have hi := Rl_ini (n := w * hh) (A := AdjC w) (q := qN M b w) (e := e)
    refine ⟨um_eq, fun a ha => ?_⟩
    have := hi.2 a ha
    rw [← hD a (by omega)] at this
    exact this
  obtain ⟨M', r1, r2, r3⟩ := rounds (w * hh) 0 (um (fillM M (b + 3) 49 Big) (b + 3) (e : Int) 0) 1 none none (by omega) hw3 (fun c c0 c1 => by
      obtain ⟨a, ha⟩ : ∃ a : Nat, c = (a : Int) := ⟨c.toNat, by omega⟩
      rw [ha, hD a (by omega)]
      unfold ini0
      split
      · exact ⟨by decide, by decide⟩
      · exact ⟨by decide, Int.le_refl _⟩) hR0 (Or.inr rfl) (fun h0 => by cases h0) (by
      have := cnt_one (p := uns (fun a => um (fillM M (b + 3) 49 Big) (b + 3) (e : Int) 0 (b + 3) (a : Int)) E) (w * hh) he (decide_eq_false (fun hn => hn (by
        show um (fillM M (b + 3) 49 Big) (b + 3) (e : Int) 0 (b + 3) (e : Int) = E e
        rw [um_eq, hE.1])))
      omega)
  refine ⟨M', ⟨_, rfl, ?_⟩, r2, r3⟩
  refine Rn.cal rfl (X_ald rfl <| X_gi 1 0 0 hS.fl ⟨rfl, rfl, rfl⟩ (Or.inl rfl) <| X_ald rfl <| X_gi 1 1 1 hS.fl ⟨rfl, rfl, rfl⟩ (Or.inl rfl) <| X_mul <| X_ist rfl (L' := [_, _, _, _, _, _, _]) rfl <| X_ald rfl <| X_gr 1 7 hS.fl ⟨rfl, rfl⟩ rfl rfl <| X_i <| X_nil) (vs := [_, _]) (rest := []) rfl rfl rfl rfl (c_fill hS.wy (by decide)) ?_
  refine Rn.fal rfl (X_ald rfl <| X_gr 1 7 hS.fl ⟨rfl, rfl⟩ rfl rfl <| X_ild rfl <| X_i <| X_is hS.wy (by first | omega | (simp (disch := omega) only [um_eq, um_na, um_ni, Int.toNat_natCast]; omega)) (by first | omega | (simp (disch := omega) only [um_eq, um_na, um_ni, Int.toNat_natCast]; omega)) rfl <| X_i <| X_ist rfl (L' := [_, _, _, _, _, _, _]) rfl <| X_i <| X_ist rfl (L' := [_, _, _, _, _, _, _]) rfl <| X_nil) ?_
  show Rn S 24 31 ([], [some (vR (b + 1)), some (vI (e : Int)), some (vI (M (b + 1) 0 * M (b + 1) 1)), some (vI 1), some (vI 0), none, none], T, um (fillM M (b + 3) 49 1000000000) (b + 3) (e : Int) 0) _
  rw [enn]
  exact r1
end Measure
