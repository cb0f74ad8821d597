/-! COPIES, NEW ROOMS -/
theorem um_fn {M : Nat → Int → Int} {a a' : Nat} {i v : Int} (h : a' ≠ a) : um M a i v a' = M a' := funext (fun _ => um_na h)
theorem cpm_fn {M : Nat → Int → Int} {a d a' : Nat} {x y n : Int} (h : a' ≠ d) : cpm M a d x y n a' = M a' := funext (fun _ => if_neg (fun q => h q.1))
theorem cpm_in {M : Nat → Int → Int} {a d : Nat} {n k : Int} (h0 : 0 ≤ k) (h1 : k < n) : cpm M a d 0 0 n d k = M a k := by
  unfold cpm
  rw [if_pos ⟨rfl, h0, by omega⟩]
  congr 1
  omega
def fillM (M : Nat → Int → Int) (a : Nat) (n v : Int) : Nat → Int → Int := fun a' i => if a' = a ∧ 0 ≤ i ∧ i < n then v else M a' i
theorem fillM_fn {M : Nat → Int → Int} {a a' : Nat} {n v : Int} (h : a' ≠ a) : fillM M a n v a' = M a' := funext (fun _ => if_neg (fun q => h q.1))
theorem fillM_in {M : Nat → Int → Int} {a : Nat} {n v k : Int} (h0 : 0 ≤ k) (h1 : k < n) : fillM M a n v a k = v := if_pos ⟨rfl, h0, h1⟩
theorem fillM_0 {M : Nat → Int → Int} {a : Nat} {v : Int} : fillM M a 0 v = M := by
  funext a' i
  unfold fillM
  rw [if_neg (by omega)]
theorem fillM_s {M : Nat → Int → Int} {a i : Nat} {v : Int} : um (fillM M a i v) a i v = fillM M a ((i + 1 : Nat) : Int) v := by
  funext a' k
  unfold um fillM
  by_cases h1 : a' = a ∧ k = (i : Int)
  · rw [if_pos h1, if_pos ⟨h1.1, by omega, by omega⟩]
  · rw [if_neg h1]
    by_cases h2 : a' = a ∧ 0 ≤ k ∧ k < (i : Int)
    · rw [if_pos h2, if_pos ⟨h2.1, by omega, by omega⟩]
    · rw [if_neg h2, if_neg (fun q => h1 ⟨q.1, by
        by_cases e : k = (i : Int)
        · exact e
        · exact absurd ⟨q.1, q.2.1, by omega⟩ h2⟩)]
section Copy
variable {S : List Int} {T : List Sh} {M : Nat → Int → Int} {b o : Nat} {h : Hp}
theorem c_fill {a n : Nat} {v : Int} (hA : T[a]? = some (9, n, nor)) (hn : n ≤ 1000) : Cl S 203 [vR a, vI v] (T, M) (none, (T, fillM M a (n : Int) v)) := by
  have hb : Nat.ble n 1000 = true := Nat.ble_eq_true_of_le hn
  refine ⟨_, rfl, ?_⟩
  refine Rn.fal rfl (X_i <| X_ist rfl (L' := [_, _, _, _]) rfl <| X_ald rfl <| X_len hA (by decide) <| X_ist rfl (L' := [_, _, _, _]) rfl <| X_nil) ?_
  have loop : ∀ (k i : Nat), i + k = n → Rn S 203 5 ([], [some (vR a), some (vI v), some (vI (i : Int)), some (vI (n : Int))], T, fillM M a i v) (none, (T, fillM M a (n : Int) v)) := by
    intro k
    induction k with
    | zero =>
      intro i hi
      have e : i = n := by omega
      refine Rn.cge rfl (X_ild rfl <| X_ild rfl <| X_nil) (by first | omega | (simp (disch := omega) only [um_eq, um_na, um_ni, Int.toNat_natCast]; omega)) (by first | omega | (simp (disch := omega) only [um_eq, um_na, um_ni, Int.toNat_natCast]; omega)) (fun hc => ?_) (fun hc => ?_)
      · rw [e]
        refine Rn.rv rfl (X_nil) rfl
      · exact absurd hc (by omega)
    | succ k ih =>
      intro i hi
      refine Rn.cge rfl (X_ild rfl <| X_ild rfl <| X_nil) (by first | omega | (simp (disch := omega) only [um_eq, um_na, um_ni, Int.toNat_natCast]; omega)) (by first | omega | (simp (disch := omega) only [um_eq, um_na, um_ni, Int.toNat_natCast]; omega)) (fun hc => ?_) (fun hc => ?_)
      · exact absurd hc (by omega)
      · refine Rn.jto rfl (X_ald rfl <| X_ild rfl <| X_ild rfl <| X_is hA (by omega) (by omega) hb <| X_inc rfl (L' := [_, _, _, _]) rfl <| X_nil) ?_
        rw [fillM_s]
        exact ih (i + 1) (by omega)
  have e0 := loop n 0 (by omega)
  have e1 : fillM M a ((0 : Nat) : Int) v = M := fillM_0
  rw [e1] at e0
  exact e0
/-- a room anew: what it has behind layOut -/
def LayP (M M' : Nat → Int → Int) (b : Nat) (w h : Int) : Prop := M' (b + 1) 0 = w ∧ M' (b + 1) 1 = h ∧ M' (b + 1) 2 = 0 ∧ M' (b + 1) 3 = w * h - 1 ∧ M' (b + 1) 4 = 0 ∧ M' (b + 1) 5 = 0 ∧ M' (b + 1) 8 = -1 ∧ (∀ c, 0 ≤ c → c < 49 → M' (b + 2) c = 0) ∧ (∀ a, a ≠ b + 1 → a ≠ b + 2 → M' a = M a)
theorem c_layOut {w h : Int} (hS : isSt T b) : ∃ M', Cl S 14 [vR (b + 1), vI w, vI h] (T, M) (none, (T, M')) ∧ LayP M M' b w h := by
  refine ⟨um (fillM (um (um (um (um (um (um M (b + 1) 0 w) (b + 1) 1 h) (b + 1) 2 0) (b + 1) 3 (w * h - 1)) (b + 1) 4 0) (b + 1) 5 0) (b + 2) 49 0) (b + 1) 8 (-1), ⟨_, rfl, ?_⟩, ?_⟩
  · refine Rn.cal rfl (X_ald rfl <| X_ild rfl <| X_pi 1 0 0 hS.fl ⟨rfl, rfl, rfl⟩ (Or.inl rfl) <| X_ald rfl <| X_ild rfl <| X_pi 1 1 1 hS.fl ⟨rfl, rfl, rfl⟩ (Or.inl rfl) <| X_ald rfl <| X_i <| X_pi 1 2 2 hS.fl ⟨rfl, rfl, rfl⟩ (Or.inl rfl) <| X_ald rfl <| X_ald rfl <| X_gi 1 0 0 hS.fl ⟨rfl, rfl, rfl⟩ (Or.inl rfl) <| X_ald rfl <| X_gi 1 1 1 hS.fl ⟨rfl, rfl, rfl⟩ (Or.inl rfl) <| X_mul <| X_i <| X_sub <| X_pi 1 3 3 hS.fl ⟨rfl, rfl, rfl⟩ (Or.inl rfl) <| X_ald rfl <| X_i <| X_pi 1 4 4 hS.fl ⟨rfl, rfl, rfl⟩ (Or.inl rfl) <| X_ald rfl <| X_i <| X_pi 1 5 5 hS.fl ⟨rfl, rfl, rfl⟩ (Or.inl rfl) <| X_ald rfl <| X_gr 1 6 hS.fl ⟨rfl, rfl⟩ rfl rfl <| X_i <| X_nil) (vs := [_, _]) (rest := []) rfl rfl rfl rfl (c_fill hS.th (by decide)) ?_
    have e : um (um (um (um M (b + 1) 0 w) (b + 1) 1 h) (b + 1) 2 0) (b + 1) 3 (um (um (um M (b + 1) 0 w) (b + 1) 1 h) (b + 1) 2 0 (b + 1) 0 * um (um (um M (b + 1) 0 w) (b + 1) 1 h) (b + 1) 2 0 (b + 1) 1 - 1) = um (um (um (um M (b + 1) 0 w) (b + 1) 1 h) (b + 1) 2 0) (b + 1) 3 (w * h - 1) := by
      simp (disch := omega) only [um_eq, um_ni]
    rw [e]
    refine Rn.rv rfl (X_ald rfl <| X_i <| X_pi 1 8 8 hS.fl ⟨rfl, rfl, rfl⟩ (Or.inl rfl) <| X_nil) rfl
  · have f2 : ∀ c, fillM (um (um (um (um (um (um M (b + 1) 0 w) (b + 1) 1 h) (b + 1) 2 0) (b + 1) 3 (w * h - 1)) (b + 1) 4 0) (b + 1) 5 0) (b + 2) 49 0 (b + 1) c = (um (um (um (um (um (um M (b + 1) 0 w) (b + 1) 1 h) (b + 1) 2 0) (b + 1) 3 (w * h - 1)) (b + 1) 4 0) (b + 1) 5 0) (b + 1) c := fun c => by rw [fillM_fn (by omega)]
    refine ⟨?_, ?_, ?_, ?_, ?_, ?_, um_eq, fun c c0 c1 => ?_, fun a a1 a2 => ?_⟩
    · rw [um_ni (by omega), f2]; simp (disch := omega) only [um_eq, um_ni]
    · rw [um_ni (by omega), f2]; simp (disch := omega) only [um_eq, um_ni]
    · rw [um_ni (by omega), f2]; simp (disch := omega) only [um_eq, um_ni]
    · rw [um_ni (by omega), f2]; simp (disch := omega) only [um_eq, um_ni]
    · rw [um_ni (by omega), f2]; simp (disch := omega) only [um_eq, um_ni]
    · rw [um_ni (by omega), f2]; simp (disch := omega) only [um_eq, um_ni]
    · rw [um_na (by omega), fillM_in c0 c1]
    · rw [um_fn a1, fillM_fn a2, um_fn a1, um_fn a1, um_fn a1, um_fn a1, um_fn a1, um_fn a1]
/-- State.startAnew -/
def NewP (M M' : Nat → Int → Int) (b : Nat) (w h : Int) : Prop := LayP M M' b w h ∧ True
theorem c_startAnew {w h : Int} (hS : isSt T b) : ∃ M', Cl S 54 [vR b, vI w, vI h] (T, M) (none, (T, M')) ∧ (M' (b + 1) 0 = w ∧ M' (b + 1) 1 = h ∧ M' (b + 1) 2 = 0 ∧ M' (b + 1) 3 = w * h - 1 ∧ M' (b + 1) 4 = 0 ∧ M' (b + 1) 5 = 0 ∧ M' (b + 1) 8 = -1 ∧ (∀ c, 0 ≤ c → c < 49 → M' (b + 2) c = 0)) ∧ (M' (b + 4) 1 = 0 ∧ M' (b + 4) 2 = 0 ∧ M' (b + 4) 3 = 0) ∧ M' (b + 23) 0 = 0 ∧ (∀ a, a ≠ b + 1 → a ≠ b + 2 → a ≠ b + 4 → a ≠ b + 23 → M' a = M a) := by
  obtain ⟨M1, c1, p1, p2, p3, p4, p5, p6, p7, p8, p9⟩ := c_layOut (S := S) (T := T) (M := M) (b := b) (w := w) (h := h) hS
  refine ⟨um (um (um (um M1 (b + 4) 1 0) (b + 4) 2 0) (b + 4) 3 0) (b + 23) 0 0, ⟨_, rfl, ?_⟩, ?_, ?_, um_eq, ?_⟩
  · refine Rn.cal rfl (X_ald rfl <| X_gr 6 0 hS.st ⟨rfl, rfl⟩ rfl rfl <| X_ild rfl <| X_ild rfl <| X_nil) (vs := [_, _, _]) (rest := []) rfl rfl rfl (rcv_v hS.fl (by decide)) (c1) ?_
    refine Rn.cal rfl (X_ald rfl <| X_gr 6 1 hS.st ⟨rfl, rfl⟩ rfl rfl <| X_nil) (vs := [_]) (rest := []) rfl rfl rfl (rcv_v hS.be (by decide)) (c_bnew hS) ?_
    refine Rn.rv rfl (X_ald rfl <| X_gr 6 2 hS.st ⟨rfl, rfl⟩ rfl rfl <| X_i <| X_pi 3 0 0 hS.no ⟨rfl, rfl, rfl⟩ (Or.inl rfl) <| X_nil) rfl
  · simp (disch := omega) only [um_na]
    exact ⟨p1, p2, p3, p4, p5, p6, p7, p8⟩
  · simp (disch := omega) only [um_eq, um_na, um_ni]
    exact ⟨trivial, trivial, trivial⟩
  · intro a a1 a2 a3 a4
    rw [um_fn a4, um_fn a3, um_fn a3, um_fn a3]
    exact p9 a a1 a2
end Copy
