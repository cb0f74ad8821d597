/-! A NIGHT FORESEEN, AND WHAT IT COSTS -/
def setN (M : Nat → Int → Int) (b : Nat) (p : Int × Int × Int) : Nat → Int → Int := um (um (um M (b + 26) 0 p.1) (b + 26) 1 p.2.1) (b + 26) 2 p.2.2
theorem setN_ne {M : Nat → Int → Int} {b a : Nat} {p : Int × Int × Int} (h : a ≠ b + 26) : setN M b p a = M a := by
  funext i
  unfold setN
  rw [um_na h, um_na h, um_na h]
theorem setN_0 {M : Nat → Int → Int} {b : Nat} {p : Int × Int × Int} : setN M b p (b + 26) 0 = p.1 := by
  unfold setN
  rw [um_ni (by omega), um_ni (by omega), um_eq]
theorem setN_1 {M : Nat → Int → Int} {b : Nat} {p : Int × Int × Int} : setN M b p (b + 26) 1 = p.2.1 := by
  unfold setN
  rw [um_ni (by omega), um_eq]
theorem setN_2 {M : Nat → Int → Int} {b : Nat} {p : Int × Int × Int} : setN M b p (b + 26) 2 = p.2.2 := by
  unfold setN
  rw [um_eq]
theorem setN_setN {M : Nat → Int → Int} {b : Nat} {p q : Int × Int × Int} : setN (setN M b p) b q = setN M b q := by
  funext a i
  by_cases h : a = b + 26
  · subst h
    by_cases h0 : i = 0
    · subst h0; rw [setN_0, setN_0]
    · by_cases h1 : i = 1
      · subst h1; rw [setN_1, setN_1]
      · by_cases h2 : i = 2
        · subst h2; rw [setN_2, setN_2]
        · unfold setN
          rw [um_ni h2, um_ni h1, um_ni h0, um_ni h2, um_ni h1, um_ni h0, um_ni h2, um_ni h1, um_ni h0]
  · rw [setN_ne h, setN_ne h, setN_ne h]
theorem waitC_cg {M M' : Nat → Int → Int} {a : Nat} {l : Int} (h : M' a = M a) : waitC M' a l = waitC M a l := by
  unfold waitC
  rw [h]
theorem lightC_cg {M M' : Nat → Int → Int} {a : Nat} {l : Int} (h : M' a = M a) : lightC M' a l = lightC M a l := by
  unfold lightC
  rw [h]
theorem TrOk_cg {M M' : Nat → Int → Int} {a : Nat} (h : M' a = M a) (k : TrOk M a) : TrOk M' a := by
  unfold TrOk
  rw [h]
  exact k
theorem upA_cg {M M' : Nat → Int → Int} {a : Nat} (h : M' a = M a) : upA M' a = upA M a := by
  unfold upA
  rw [h]
theorem lstC_cg {M M' : Nat → Int → Int} {b n : Nat} (h : ∀ i, i < n → M' (b + 16 + 2 * i) = M (b + 16 + 2 * i)) : lstC M' b n = lstC M b n := by
  induction n with
  | zero => rfl
  | succ n ih =>
    unfold lstC
    rw [ih (fun i hi => h i (by omega)), h n (by omega)]
theorem waitC_in {M : Nat → Int → Int} {a : Nat} {l : Int} (ht : TrOk M a) (h0 : 0 ≤ l) (h1 : l ≤ M a 6) : 0 ≤ waitC M a l ∧ waitC M a l ≤ 2000000 := by
  unfold waitC
  split
  · omega
  · split
    · omega
    · split
      · omega
      · split
        · omega
        · split <;> omega
theorem lstC_le {M : Nat → Int → Int} {b n i : Nat} (h : i < n) (ht : ∀ i, i < n → M (b + 16 + 2 * i) 6 ≤ 1000000000) : lstC M b n ≤ M (b + 16 + 2 * i) 6 := by
  induction n with
  | zero => omega
  | succ n ih =>
    unfold lstC
    by_cases e : i = n
    · subst e
      split <;> omega
    · have := ih (by omega) (fun i hi => ht i (by omega))
      split <;> omega
/-- one's own minute by which he would put it out, in order: the minute, who, whether anyhow -/
def nightF (M : Nat → Int → Int) (b : Nat) (l : Int) : Nat → Int × Int × Int
  | 0 => (300, -1, 0)
  | n + 1 =>
    let p := nightF M b l n
    let p1 := if upA M (b + 16 + 2 * n) ∧ (M (b + 16 + 2 * n) 5 < p.1 ∨ (M (b + 16 + 2 * n) 5 = p.1 ∧ p.2.2 = 0)) then (M (b + 16 + 2 * n) 5, (n : Int), 1) else p
    if M (b + 16 + 2 * n) 1 + waitC M (b + 16 + 2 * n) l < p1.1 then (M (b + 16 + 2 * n) 1 + waitC M (b + 16 + 2 * n) l, (n : Int), 0) else p1
theorem nightF_in {M : Nat → Int → Int} {b n : Nat} {l : Int} (l0 : 0 ≤ l) (ht : ∀ i, i < n → TrOk M (b + 16 + 2 * i) ∧ l ≤ M (b + 16 + 2 * i) 6) : 0 ≤ (nightF M b l n).1 ∧ (nightF M b l n).1 ≤ 300 ∧ -1 ≤ (nightF M b l n).2.1 ∧ (nightF M b l n).2.1 < (n : Int) ∧ ((nightF M b l n).2.2 = 0 ∨ (nightF M b l n).2.2 = 1) ∧ ((nightF M b l n).2.1 = -1 → (nightF M b l n).2.2 = 0 ∧ (nightF M b l n).1 = 300) := by
  induction n with
  | zero => unfold nightF; simp
  | succ n ih =>
    have h1 := ih (fun i hi => ht i (by omega))
    have h2 := ht n (by omega)
    have h3 := waitC_in h2.1 l0 h2.2
    unfold nightF
    simp only
    have hc : ∀ q : Int × Int × Int, (0 ≤ q.1 ∧ q.1 ≤ 300 ∧ -1 ≤ q.2.1 ∧ q.2.1 < ((n + 1 : Nat) : Int) ∧ (q.2.2 = 0 ∨ q.2.2 = 1) ∧ (q.2.1 = -1 → q.2.2 = 0 ∧ q.1 = 300)) → (0 ≤ (if M (b + 16 + 2 * n) 1 + waitC M (b + 16 + 2 * n) l < q.1 then (M (b + 16 + 2 * n) 1 + waitC M (b + 16 + 2 * n) l, (n : Int), (0 : Int)) else q).1 ∧ (if M (b + 16 + 2 * n) 1 + waitC M (b + 16 + 2 * n) l < q.1 then (M (b + 16 + 2 * n) 1 + waitC M (b + 16 + 2 * n) l, (n : Int), (0 : Int)) else q).1 ≤ 300 ∧ -1 ≤ (if M (b + 16 + 2 * n) 1 + waitC M (b + 16 + 2 * n) l < q.1 then (M (b + 16 + 2 * n) 1 + waitC M (b + 16 + 2 * n) l, (n : Int), (0 : Int)) else q).2.1 ∧ (if M (b + 16 + 2 * n) 1 + waitC M (b + 16 + 2 * n) l < q.1 then (M (b + 16 + 2 * n) 1 + waitC M (b + 16 + 2 * n) l, (n : Int), (0 : Int)) else q).2.1 < ((n + 1 : Nat) : Int) ∧ ((if M (b + 16 + 2 * n) 1 + waitC M (b + 16 + 2 * n) l < q.1 then (M (b + 16 + 2 * n) 1 + waitC M (b + 16 + 2 * n) l, (n : Int), (0 : Int)) else q).2.2 = 0 ∨ (if M (b + 16 + 2 * n) 1 + waitC M (b + 16 + 2 * n) l < q.1 then (M (b + 16 + 2 * n) 1 + waitC M (b + 16 + 2 * n) l, (n : Int), (0 : Int)) else q).2.2 = 1) ∧ ((if M (b + 16 + 2 * n) 1 + waitC M (b + 16 + 2 * n) l < q.1 then (M (b + 16 + 2 * n) 1 + waitC M (b + 16 + 2 * n) l, (n : Int), (0 : Int)) else q).2.1 = -1 → (if M (b + 16 + 2 * n) 1 + waitC M (b + 16 + 2 * n) l < q.1 then (M (b + 16 + 2 * n) 1 + waitC M (b + 16 + 2 * n) l, (n : Int), (0 : Int)) else q).2.2 = 0 ∧ (if M (b + 16 + 2 * n) 1 + waitC M (b + 16 + 2 * n) l < q.1 then (M (b + 16 + 2 * n) 1 + waitC M (b + 16 + 2 * n) l, (n : Int), (0 : Int)) else q).1 = 300)) := by
      intro q hq
      by_cases hw : M (b + 16 + 2 * n) 1 + waitC M (b + 16 + 2 * n) l < q.1
      · rw [if_pos hw]
        refine ⟨by show 0 ≤ M (b + 16 + 2 * n) 1 + waitC M (b + 16 + 2 * n) l; omega, by show M (b + 16 + 2 * n) 1 + waitC M (b + 16 + 2 * n) l ≤ 300; omega, by show (-1 : Int) ≤ n; omega, by show (n : Int) < ((n + 1 : Nat) : Int); omega, Or.inl rfl, fun e => ?_⟩
        have e : (n : Int) = -1 := e
        omega
      · rw [if_neg hw]
        exact hq
    by_cases hu : upA M (b + 16 + 2 * n) ∧ (M (b + 16 + 2 * n) 5 < (nightF M b l n).1 ∨ (M (b + 16 + 2 * n) 5 = (nightF M b l n).1 ∧ (nightF M b l n).2.2 = 0))
    · rw [if_pos hu]
      refine hc _ ⟨by show 0 ≤ M (b + 16 + 2 * n) 5; omega, by show M (b + 16 + 2 * n) 5 ≤ 300; omega, by show (-1 : Int) ≤ n; omega, by show (n : Int) < ((n + 1 : Nat) : Int); omega, Or.inr rfl, fun e => ?_⟩
      have e : (n : Int) = -1 := e
      omega
    · rw [if_neg hu]
      exact hc _ ⟨h1.1, h1.2.1, h1.2.2.1, by omega, h1.2.2.2.2.1, h1.2.2.2.2.2⟩
section Night
variable {S : List Int} {T : List Sh} {M : Nat → Int → Int} {b : Nat} {h : Hp}
theorem c_bforesee (hS : isSt T b) (h0 : 0 ≤ M (b + 4) 1) (h4 : M (b + 4) 1 ≤ 4) (ht : ∀ i : Nat, (i : Int) < M (b + 4) 1 → TrOk M (b + 16 + 2 * i)) : Cl S 8 [vR (b + 4), vR (b + 26)] (T, M) (none, (T, setN M b (nightF M b (lstC M b (M (b + 4) 1).toNat) (M (b + 4) 1).toNat))) := by
  refine ⟨_, rfl, ?_⟩
  refine Rn.cal rfl (X_ald rfl <| X_i <| X_i <| X_i <| X_nil) (vs := [_, _, _, _]) (rest := []) rfl rfl rfl (rcv_v hS.ni (by decide)) (c_endAt hS (Or.inl rfl)) ?_
  have e0 : um (um (um M (b + 26) 0 300) (b + 26) 1 (-1)) (b + 26) 2 0 = setN M b (300, -1, 0) := rfl
  rw [e0]
  have hz : ∀ p, setN M b p (b + 4) = M (b + 4) := fun p => setN_ne (by omega)
  have ha : ∀ p i, i < 4 → setN M b p (b + 16 + 2 * i) = M (b + 16 + 2 * i) := fun p i hi => setN_ne (by omega)
  have el : lstC (setN M b (300, -1, 0)) b (M (b + 4) 1).toNat = lstC M b (M (b + 4) 1).toNat := lstC_cg (fun i hi => ha _ i (by omega))
  have cl := c_least (S := S) (M := setN M b (300, -1, 0)) hS (by rw [hz]; exact h0) (by rw [hz]; exact h4) (fun i hi => by rw [hz] at hi; exact TrOk_cg (ha _ i (by omega)) (ht i hi))
  rw [hz, el] at cl
  refine Rn.cal rfl (X_ald rfl <| X_nil) (vs := [_]) (rest := []) rfl rfl rfl (rcv_v hS.be (by decide)) (cl) ?_
  refine Rn.fal rfl (X_ist rfl (L' := [_, _, _, _, _, _, _]) rfl <| X_i <| X_ist rfl (L' := [_, _, _, _, _, _, _]) rfl <| X_nil) ?_
  have l0 := lstC_in (M := M) (b := b) (n := (M (b + 4) 1).toNat) (by omega) (fun i hi => ht i (by omega))
  generalize hl : lstC M b (M (b + 4) 1).toNat = l at *
  have hle : ∀ i : Nat, (i : Int) < M (b + 4) 1 → TrOk M (b + 16 + 2 * i) ∧ l ≤ M (b + 16 + 2 * i) 6 := fun i hi => ⟨ht i hi, by
    rw [← hl]
    exact lstC_le (by omega) (fun j hj => by have := ht j (by omega); omega)⟩
  have loop : ∀ (k i : Nat) (x4 x5 x6 : Option AV), i + k = (M (b + 4) 1).toNat → Rn S 8 16 ([], [some (vR (b + 4)), some (vR (b + 26)), some (vI l), some (vI (i : Int)), x4, x5, x6], T, setN M b (nightF M b l i)) (none, (T, setN M b (nightF M b l (M (b + 4) 1).toNat))) := by
    intro k
    induction k with
    | zero =>
      intro i x4 x5 x6 hi
      have e : i = (M (b + 4) 1).toNat := by omega
      refine Rn.cge rfl (X_ild rfl <| X_ald rfl <| X_gi 0 1 1 hS.be ⟨rfl, rfl, rfl⟩ (Or.inl rfl) <| X_nil) (by first | omega | (simp (disch := omega) only [um_eq, um_na, um_ni, Int.toNat_natCast]; omega)) (by rw [hz]; omega) (fun hc => ?_) (fun hc => ?_)
      · rw [e]
        refine Rn.rv rfl (X_nil) rfl
      · rw [hz] at hc
        exact absurd hc (by omega)
    | succ k ih =>
      intro i x4 x5 x6 hi
      have hi4 : i < 4 := by omega
      have hti := hle i (by omega)
      have hn := nightF_in (M := M) (b := b) (n := i) l0.1 (fun j hj => hle j (by omega))
      have hw := waitC_in hti.1 l0.1 hti.2
      have em : ∀ p, setN M b p (b + 16 + 2 * i) = M (b + 16 + 2 * i) := fun p => ha p i hi4
      refine Rn.cge rfl (X_ild rfl <| X_ald rfl <| X_gi 0 1 1 hS.be ⟨rfl, rfl, rfl⟩ (Or.inl rfl) <| X_nil) (by first | omega | (simp (disch := omega) only [um_eq, um_na, um_ni, Int.toNat_natCast]; omega)) (by rw [hz]; omega) (fun hc => ?_) (fun hc => ?_)
      · rw [hz] at hc
        exact absurd hc (by omega)
      · clear hc
        have cu := c_isUp (S := S) (M := setN M b (nightF M b l i)) hS hi4 (TrOk_cg (em _) hti.1)
        have eu : (if upA (setN M b (nightF M b l i)) (b + 16 + 2 * i) then (1 : Int) else 0) = if upA M (b + 16 + 2 * i) then 1 else 0 := by simp only [upA_cg (em (nightF M b l i))]
        rw [eu] at cu
        refine Rn.cal rfl (X_ald rfl <| X_gr 0 0 hS.be ⟨rfl, rfl⟩ rfl rfl <| X_ild rfl <| X_aa hS.sl (by decide) (by first | omega | (simp (disch := omega) only [um_eq, um_na, um_ni, Int.toNat_natCast]; omega)) (by first | omega | (simp (disch := omega) only [um_eq, um_na, um_ni, Int.toNat_natCast]; omega)) rfl (rSl_at (by omega)) <| X_ast rfl (L' := [_, _, _, _, _, _, _]) rfl <| X_ald rfl <| X_gr 5 0 (hS.se (by omega)) ⟨rfl, rfl⟩ rfl rfl <| X_i <| X_ia (hS.tr (by omega)) (by first | omega | (simp (disch := omega) only [um_eq, um_na, um_ni, Int.toNat_natCast]; omega)) (by first | omega | (simp (disch := omega) only [um_eq, um_na, um_ni, Int.toNat_natCast]; omega)) rfl <| X_ist rfl (L' := [_, _, _, _, _, _, _]) rfl <| X_ald rfl <| X_nil) (vs := [_]) (rest := []) rfl rfl rfl (rcv_v (hS.se (by omega)) (by decide)) (cu) ?_
        have e5 : setN M b (nightF M b l i) (b + 16 + 2 * i) 5 = M (b + 16 + 2 * i) 5 := by rw [em]
        show Rn S 8 46 ([vI (if upA M (b + 16 + 2 * i) then 1 else 0)], [some (vR (b + 4)), some (vR (b + 26)), some (vI l), some (vI (i : Int)), some (vR (b + 15 + 2 * i)), some (vI (setN M b (nightF M b l i) (b + 16 + 2 * i) 5)), x6], T, setN M b (nightF M b l i)) _
        rw [e5]
        -- the second half, from any night that the first leaves
        have tail : ∀ p1 : Int × Int × Int, (0 ≤ p1.1 ∧ p1.1 ≤ 300) → nightF M b l (i + 1) = (if M (b + 16 + 2 * i) 1 + waitC M (b + 16 + 2 * i) l < p1.1 then (M (b + 16 + 2 * i) 1 + waitC M (b + 16 + 2 * i) l, (i : Int), 0) else p1) → Rn S 8 82 ([], [some (vR (b + 4)), some (vR (b + 26)), some (vI l), some (vI (i : Int)), some (vR (b + 15 + 2 * i)), some (vI (M (b + 16 + 2 * i) 5)), x6], T, setN M b p1) (none, (T, setN M b (nightF M b l (M (b + 4) 1).toNat))) := by
          intro p1 hp1 hf
          have cw := c_waits (S := S) (M := setN M b p1) (l := l) hS hi4 (TrOk_cg (em _) hti.1)
          rw [waitC_cg (em p1)] at cw
          refine Rn.cal rfl (X_ald rfl <| X_gr 5 0 (hS.se (by omega)) ⟨rfl, rfl⟩ rfl rfl <| X_i <| X_ia (hS.tr (by omega)) (by first | omega | (simp (disch := omega) only [um_eq, um_na, um_ni, Int.toNat_natCast]; omega)) (by first | omega | (simp (disch := omega) only [um_eq, um_na, um_ni, Int.toNat_natCast]; omega)) rfl <| X_ald rfl <| X_ild rfl <| X_nil) (vs := [_, _]) (rest := [_]) rfl rfl rfl (rcv_v (hS.se (by omega)) (by decide)) (cw) ?_
          have e1 : setN M b p1 (b + 16 + 2 * i) 1 = M (b + 16 + 2 * i) 1 := by rw [em]
          show Rn S 8 95 ([vI (waitC M (b + 16 + 2 * i) l), vI (setN M b p1 (b + 16 + 2 * i) 1)], _, T, setN M b p1) _
          rw [e1]
          refine Rn.cge rfl (X_add <| X_ist rfl (L' := [_, _, _, _, _, _, _]) rfl <| X_ild rfl <| X_ald rfl <| X_gi 2 0 0 hS.ni ⟨rfl, rfl, rfl⟩ (Or.inl rfl) <| X_nil) (by omega) (by rw [setN_0]; omega) (fun hc => ?_) (fun hc => ?_)
          · rw [setN_0] at hc
            rw [if_neg (by omega)] at hf
            refine Rn.jto rfl (X_inc rfl (L' := [_, _, _, _, _, _, _]) rfl <| X_nil) ?_
            rw [← hf]
            exact ih (i + 1) _ _ _ (by omega)
          · rw [setN_0] at hc
            rw [if_pos (by omega)] at hf
            refine Rn.cal rfl (X_ald rfl <| X_ild rfl <| X_ild rfl <| X_i <| X_nil) (vs := [_, _, _, _]) (rest := []) rfl rfl rfl (rcv_v hS.ni (by decide)) (c_endAt hS (Or.inl rfl)) ?_
            refine Rn.jto rfl (X_inc rfl (L' := [_, _, _, _, _, _, _]) rfl <| X_nil) ?_
            have e9 : um (um (um (setN M b p1) (b + 26) 0 (M (b + 16 + 2 * i) 1 + waitC M (b + 16 + 2 * i) l)) (b + 26) 1 (i : Int)) (b + 26) 2 0 = setN M b (nightF M b l (i + 1)) := by
              rw [hf]
              exact setN_setN (p := p1) (q := (_, _, 0))
            show Rn S 8 16 ([], _, T, um (um (um (setN M b p1) (b + 26) 0 (M (b + 16 + 2 * i) 1 + waitC M (b + 16 + 2 * i) l)) (b + 26) 1 (i : Int)) (b + 26) 2 0) _
            rw [e9]
            exact ih (i + 1) _ _ _ (by omega)
        by_cases hu : upA M (b + 16 + 2 * i)
        · rw [if_pos hu]
          refine Rn.ieq rfl (X_nil) (by first | omega | (simp (disch := omega) only [um_eq, um_na, um_ni, Int.toNat_natCast]; omega)) (fun hc => ?_) (fun hc => ?_)
          · exact absurd hc (by omega)
          · clear hc
            have up : (M (b + 16 + 2 * i) 5 < (nightF M b l i).1 ∨ (M (b + 16 + 2 * i) 5 = (nightF M b l i).1 ∧ (nightF M b l i).2.2 = 0)) → Rn S 8 74 ([], [some (vR (b + 4)), some (vR (b + 26)), some (vI l), some (vI (i : Int)), some (vR (b + 15 + 2 * i)), some (vI (M (b + 16 + 2 * i) 5)), x6], T, setN M b (nightF M b l i)) (none, (T, setN M b (nightF M b l (M (b + 4) 1).toNat))) := by
              intro hc
              refine Rn.cal rfl (X_ald rfl <| X_ild rfl <| X_ild rfl <| X_i <| X_nil) (vs := [_, _, _, _]) (rest := []) rfl rfl rfl (rcv_v hS.ni (by decide)) (c_endAt hS (Or.inr rfl)) ?_
              have e9 : um (um (um (setN M b (nightF M b l i)) (b + 26) 0 (M (b + 16 + 2 * i) 5)) (b + 26) 1 (i : Int)) (b + 26) 2 1 = setN M b (M (b + 16 + 2 * i) 5, (i : Int), 1) := setN_setN (p := nightF M b l i) (q := (_, _, 1))
              show Rn S 8 82 ([], _, T, um (um (um (setN M b (nightF M b l i)) (b + 26) 0 (M (b + 16 + 2 * i) 5)) (b + 26) 1 (i : Int)) (b + 26) 2 1) _
              rw [e9]
              refine tail _ (by simp only; omega) ?_
              rw [nightF]
              try simp only
              rw [if_pos (c := upA M (b + 16 + 2 * i) ∧ _) ⟨hu, hc⟩]
            have nup : ¬ (M (b + 16 + 2 * i) 5 < (nightF M b l i).1 ∨ (M (b + 16 + 2 * i) 5 = (nightF M b l i).1 ∧ (nightF M b l i).2.2 = 0)) → Rn S 8 82 ([], [some (vR (b + 4)), some (vR (b + 26)), some (vI l), some (vI (i : Int)), some (vR (b + 15 + 2 * i)), some (vI (M (b + 16 + 2 * i) 5)), x6], T, setN M b (nightF M b l i)) (none, (T, setN M b (nightF M b l (M (b + 4) 1).toNat))) := by
              intro hc
              refine tail _ ⟨hn.1, hn.2.1⟩ ?_
              rw [nightF]
              try simp only
              rw [if_neg (c := upA M (b + 16 + 2 * i) ∧ _) (fun q => hc q.2)]
            refine Rn.clt rfl (X_ild rfl <| X_ald rfl <| X_gi 2 0 0 hS.ni ⟨rfl, rfl, rfl⟩ (Or.inl rfl) <| X_nil) (by omega) (by rw [setN_0]; omega) (fun hc => ?_) (fun hc => ?_)
            · rw [setN_0] at hc
              exact up (Or.inl hc)
            · rw [setN_0] at hc
              have hc0 := hc
              refine Rn.cne rfl (X_ild rfl <| X_ald rfl <| X_gi 2 0 0 hS.ni ⟨rfl, rfl, rfl⟩ (Or.inl rfl) <| X_nil) (by omega) (by rw [setN_0]; omega) (fun hc => ?_) (fun hc => ?_)
              · rw [setN_0] at hc
                exact nup (by omega)
              · rw [setN_0] at hc
                have hc1 := hc
                refine Rn.ine rfl (X_ald rfl <| X_gi 2 2 2 hS.ni ⟨rfl, rfl, rfl⟩ (Or.inr rfl) <| X_nil) (by rw [setN_2]; omega) (fun hc => ?_) (fun hc => ?_)
                · rw [setN_2] at hc
                  exact nup (by omega)
                · rw [setN_2] at hc
                  exact up (Or.inr ⟨by omega, hc⟩)
        · rw [if_neg hu]
          refine Rn.ieq rfl (X_nil) (by first | omega | (simp (disch := omega) only [um_eq, um_na, um_ni, Int.toNat_natCast]; omega)) (fun hc => ?_) (fun hc => ?_)
          · refine tail _ ⟨hn.1, hn.2.1⟩ ?_
            rw [nightF]
            try simp only
            rw [if_neg (c := upA M (b + 16 + 2 * i) ∧ _) (fun q => hu q.1)]
          · exact absurd rfl hc
  exact loop (M (b + 4) 1).toNat 0 _ _ _ (by omega)
end Night
