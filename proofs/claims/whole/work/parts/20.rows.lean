/-! ONE ROW AN INSTRUCTION: what it does to a state that is written out -/
theorem X_c {S : List Int} {i : In} {r : List In} {σ σ1 τ : St} (h : ex S i σ = some σ1) (k : exL S r σ1 = some τ) : exL S (i :: r) σ = some τ := by
  unfold exL
  rw [h]
  exact k
theorem ex_54 (S : List Int) (k w : Int) (σ : St) : ex S (54, k, w) σ = x_ist k.toNat σ := rfl
theorem ex_58 (S : List Int) (k w : Int) (σ : St) : ex S (58, k, w) σ = x_ast k.toNat σ := rfl
theorem ex_55 (S : List Int) (k w : Int) (σ : St) : ex S (55, k, w) σ = x_lst k.toNat σ := rfl
theorem ex_180 (S : List Int) (k w : Int) (σ : St) : ex S (180, k, w) σ = x_get (k.toNat / 100) (k.toNat % 100) σ := rfl
theorem ex_46 (S : List Int) (k w : Int) (σ : St) : ex S (46, k, w) σ = x_iald S σ := rfl
theorem ex_51 (S : List Int) (k w : Int) (σ : St) : ex S (51, k, w) σ = x_bald S σ := rfl
theorem ex_50 (S : List Int) (k w : Int) (σ : St) : ex S (50, k, w) σ = x_aald σ := rfl
theorem ex_79 (S : List Int) (k w : Int) (σ : St) : ex S (79, k, w) σ = x_iast σ := rfl
theorem ex_84 (S : List Int) (k w : Int) (σ : St) : ex S (84, k, w) σ = x_bast σ := rfl
theorem ex_83 (S : List Int) (k w : Int) (σ : St) : ex S (83, k, w) σ = x_aast σ := rfl
theorem ex_190 (S : List Int) (k w : Int) (σ : St) : ex S (190, k, w) σ = x_alen S σ := rfl
theorem ex_205 (S : List Int) (k w : Int) (σ : St) : ex S (205, k, w) σ = x_gstr k.toNat σ := rfl
theorem ex_201 (S : List Int) (k w : Int) (σ : St) : ex S (201, k, w) σ = x_acp σ := rfl
theorem ex_188 (S : List Int) (k w : Int) (σ : St) : ex S (188, k, w) σ = x_newa k.toNat σ := rfl
theorem ex_197 (S : List Int) (k w : Int) (σ : St) : ex S (197, k, w) σ = x_mna σ := rfl
theorem ex_21 (S : List Int) (k w : Int) (σ : St) : ex S (21, k, w) σ = x_ild k.toNat σ := rfl
theorem ex_22 (S : List Int) (k w : Int) (σ : St) : ex S (22, k, w) σ = x_lld k.toNat σ := rfl
theorem ex_25 (S : List Int) (k w : Int) (σ : St) : ex S (25, k, w) σ = x_ald k.toNat σ := rfl
theorem ex_132 (S : List Int) (k w : Int) (σ : St) : ex S (132, k, w) σ = x_inc k.toNat w σ := rfl
section Xrows
variable {S : List Int} {r : List In} {st : List AV} {L L' : List (Option AV)} {h : Hp} {T : List Sh} {M : Nat → Int → Int} {τ : St} {x y z k w n : Int} {a b c d e f : Nat} {rr nn : Nat → Option Nat}
theorem X_nil {σ : St} : exL S [] σ = some σ := rfl
theorem X_i (kk : exL S r (vI z :: st, L, h) = some τ) : exL S ((2, z, w) :: r) (st, L, h) = some τ := X_c rfl kk
theorem X_l (kk : exL S r (vL z :: st, L, h) = some τ) : exL S ((9, z, w) :: r) (st, L, h) = some τ := X_c rfl kk
theorem X_o (kk : exL S r (vO k.toNat :: st, L, h) = some τ) : exL S ((178, k, w) :: r) (st, L, h) = some τ := X_c rfl kk
theorem X_ild (g : L[k.toNat]? = some (some (vI z))) (kk : exL S r (vI z :: st, L, h) = some τ) : exL S ((21, k, w) :: r) (st, L, h) = some τ := X_c (by rw [ex_21]; unfold x_ild; simp only; rw [g]) kk
theorem X_lld (g : L[k.toNat]? = some (some (vL z))) (kk : exL S r (vL z :: st, L, h) = some τ) : exL S ((22, k, w) :: r) (st, L, h) = some τ := X_c (by rw [ex_22]; unfold x_lld; simp only; rw [g]) kk
theorem X_ald {v : Nat ⊕ Nat ⊕ Unit} (g : L[k.toNat]? = some (some (.inr (.inr v)))) (kk : exL S r (.inr (.inr v) :: st, L, h) = some τ) : exL S ((25, k, w) :: r) (st, L, h) = some τ := X_c (by rw [ex_25]; unfold x_ald; simp only; rw [g]) kk
theorem X_ist (hl : Nat.blt k.toNat L.length = true) (hL : st1 L k.toNat (vI z) = L') (kk : exL S r (st, L', h) = some τ) : exL S ((54, k, w) :: r) (vI z :: st, L, h) = some τ := X_c (by rw [ex_54]; unfold x_ist; simp only; rw [if_pos (show k.toNat < L.length from Nat.le_of_ble_eq_true hl), hL]) kk
theorem X_ast {v : Nat ⊕ Nat ⊕ Unit} (hl : Nat.blt k.toNat L.length = true) (hL : st1 L k.toNat (.inr (.inr v)) = L') (kk : exL S r (st, L', h) = some τ) : exL S ((58, k, w) :: r) (.inr (.inr v) :: st, L, h) = some τ := X_c (by rw [ex_58]; unfold x_ast; simp only; rw [if_pos (show k.toNat < L.length from Nat.le_of_ble_eq_true hl), hL]) kk
theorem X_lst (hl : Nat.blt (k.toNat + 1) L.length = true) (hL : st2 L k.toNat (vL z) = L') (kk : exL S r (st, L', h) = some τ) : exL S ((55, k, w) :: r) (vL z :: st, L, h) = some τ := X_c (by rw [ex_55]; unfold x_lst; simp only; rw [if_pos (show k.toNat + 1 < L.length from Nat.le_of_ble_eq_true hl), hL]) kk
theorem X_inc (g : L[k.toNat]? = some (some (vI z))) (hL : st1 L k.toNat (vI (z + n)) = L') (kk : exL S r (st, L', h) = some τ) : exL S ((132, k, n) :: r) (st, L, h) = some τ := X_c (by rw [ex_132]; unfold x_inc; simp only; rw [g]; simp only; rw [hL]) kk
theorem X_add (kk : exL S r (vI (x + y) :: st, L, h) = some τ) : exL S ((96, k, w) :: r) (vI y :: vI x :: st, L, h) = some τ := X_c rfl kk
theorem X_sub (kk : exL S r (vI (x - y) :: st, L, h) = some τ) : exL S ((100, k, w) :: r) (vI y :: vI x :: st, L, h) = some τ := X_c rfl kk
theorem X_mul (kk : exL S r (vI (x * y) :: st, L, h) = some τ) : exL S ((104, k, w) :: r) (vI y :: vI x :: st, L, h) = some τ := X_c rfl kk
theorem X_shl (kk : exL S r (vI (o_shl x y) :: st, L, h) = some τ) : exL S ((120, k, w) :: r) (vI y :: vI x :: st, L, h) = some τ := X_c rfl kk
theorem X_shr (kk : exL S r (vI (o_shr x y) :: st, L, h) = some τ) : exL S ((122, k, w) :: r) (vI y :: vI x :: st, L, h) = some τ := X_c rfl kk
theorem X_ush (kk : exL S r (vI (o_ushr x y) :: st, L, h) = some τ) : exL S ((124, k, w) :: r) (vI y :: vI x :: st, L, h) = some τ := X_c rfl kk
theorem X_and (kk : exL S r (vI (o_and x y) :: st, L, h) = some τ) : exL S ((126, k, w) :: r) (vI y :: vI x :: st, L, h) = some τ := X_c rfl kk
theorem X_or (kk : exL S r (vI (o_or x y) :: st, L, h) = some τ) : exL S ((128, k, w) :: r) (vI y :: vI x :: st, L, h) = some τ := X_c rfl kk
theorem X_lad (kk : exL S r (vL (x + y) :: st, L, h) = some τ) : exL S ((97, k, w) :: r) (vL y :: vL x :: st, L, h) = some τ := X_c rfl kk
theorem X_lsu (kk : exL S r (vL (x - y) :: st, L, h) = some τ) : exL S ((101, k, w) :: r) (vL y :: vL x :: st, L, h) = some τ := X_c rfl kk
theorem X_lmu (kk : exL S r (vL (x * y) :: st, L, h) = some τ) : exL S ((105, k, w) :: r) (vL y :: vL x :: st, L, h) = some τ := X_c rfl kk
theorem X_neg (kk : exL S r (vI (-x) :: st, L, h) = some τ) : exL S ((116, k, w) :: r) (vI x :: st, L, h) = some τ := X_c rfl kk
theorem X_i2b (kk : exL S r (vI (o_i2b x) :: st, L, h) = some τ) : exL S ((145, k, w) :: r) (vI x :: st, L, h) = some τ := X_c rfl kk
theorem X_i2c (kk : exL S r (vI (o_i2c x) :: st, L, h) = some τ) : exL S ((146, k, w) :: r) (vI x :: st, L, h) = some τ := X_c rfl kk
theorem X_i2l (ix : I32 x) (kk : exL S r (vL x :: st, L, h) = some τ) : exL S ((133, k, w) :: r) (vI x :: st, L, h) = some τ := X_c (by show some (vL (n32 x) :: st, L, h) = _; rw [n32_of ix]) kk
theorem X_l2i (kk : exL S r (vI x :: st, L, h) = some τ) : exL S ((136, k, w) :: r) (vL x :: st, L, h) = some τ := X_c rfl kk
theorem X_lcm (ix : I64 x) (iy : I64 y) (kk : exL S r (vI (lc x y) :: st, L, h) = some τ) : exL S ((148, k, w) :: r) (vL y :: vL x :: st, L, h) = some τ := X_c (by show some (vI (if n64 y < n64 x then 1 else if n64 x = n64 y then 0 else -1) :: st, L, h) = _; rw [n64_of ix, n64_of iy]; rfl) kk
theorem X_div (ix : 0 ≤ x ∧ x < 2147483648) (iy : 0 < y ∧ y < 2147483648) (kk : exL S r (vI (x / y) :: st, L, h) = some τ) : exL S ((108, k, w) :: r) (vI y :: vI x :: st, L, h) = some τ := X_c (by
  show (if n32 y = 0 then none else some (vI (Int.tdiv (n32 x) (n32 y)) :: st, L, h)) = _
  rw [n32_of (by omega), n32_of (by omega), if_neg (by omega), Int.tdiv_eq_ediv_of_nonneg ix.1]) kk
theorem X_rem (ix : 0 ≤ x ∧ x < 2147483648) (iy : 0 < y ∧ y < 2147483648) (kk : exL S r (vI (x % y) :: st, L, h) = some τ) : exL S ((112, k, w) :: r) (vI y :: vI x :: st, L, h) = some τ := X_c (by
  show (if n32 y = 0 then none else some (vI (Int.tmod (n32 x) (n32 y)) :: st, L, h)) = _
  rw [n32_of (by omega), n32_of (by omega), if_neg (by omega), Int.tmod_eq_emod_of_nonneg ix.1]) kk
theorem X_ldi (ix : 0 ≤ x ∧ x < 9223372036854775808) (iy : 0 < y ∧ y < 9223372036854775808) (kk : exL S r (vL (x / y) :: st, L, h) = some τ) : exL S ((109, k, w) :: r) (vL y :: vL x :: st, L, h) = some τ := X_c (by
  show (if n64 y = 0 then none else some (vL (Int.tdiv (n64 x) (n64 y)) :: st, L, h)) = _
  rw [n64_of (by omega), n64_of (by omega), if_neg (by omega), Int.tdiv_eq_ediv_of_nonneg ix.1]) kk
theorem X_lre (ix : 0 ≤ x ∧ x < 9223372036854775808) (iy : 0 < y ∧ y < 9223372036854775808) (kk : exL S r (vL (x % y) :: st, L, h) = some τ) : exL S ((113, k, w) :: r) (vL y :: vL x :: st, L, h) = some τ := X_c (by
  show (if n64 y = 0 then none else some (vL (Int.tmod (n64 x) (n64 y)) :: st, L, h)) = _
  rw [n64_of (by omega), n64_of (by omega), if_neg (by omega), Int.tmod_eq_emod_of_nonneg ix.1]) kk
theorem X_dupi (kk : exL S r (vI x :: vI x :: st, L, h) = some τ) : exL S ((89, k, w) :: r) (vI x :: st, L, h) = some τ := X_c rfl kk
theorem X_dupr {v : Nat ⊕ Nat ⊕ Unit} (kk : exL S r (.inr (.inr v) :: .inr (.inr v) :: st, L, h) = some τ) : exL S ((89, k, w) :: r) (.inr (.inr v) :: st, L, h) = some τ := X_c rfl kk
theorem X_du2 (kk : exL S r (vI x :: vR a :: vI x :: vR a :: st, L, h) = some τ) : exL S ((92, k, w) :: r) (vI x :: vR a :: st, L, h) = some τ := X_c rfl kk
theorem X_pop (kk : exL S r (st, L, h) = some τ) : exL S ((87, k, w) :: r) (vI x :: st, L, h) = some τ := X_c rfl kk
theorem X_min (ix : I32 x) (iy : I32 y) (hs : Nat.ble st.length 4 = true) (kk : exL S r (vI (if y < x then y else x) :: st, L, h) = some τ) : exL S ((210, 1, w) :: r) (vI y :: vI x :: st, L, h) = some τ := X_c (by
  show (if st.length ≤ 4 then some (vI (if (1 : Int).toNat = 0 then (if n32 x < n32 y then y else x) else (if n32 y < n32 x then y else x)) :: st, L, h) else none) = _
  rw [if_pos (Nat.le_of_ble_eq_true hs), if_neg (by decide), n32_of ix, n32_of iy]) kk
theorem X_max (ix : I32 x) (iy : I32 y) (hs : Nat.ble st.length 4 = true) (kk : exL S r (vI (if x < y then y else x) :: st, L, h) = some τ) : exL S ((210, 0, w) :: r) (vI y :: vI x :: st, L, h) = some τ := X_c (by
  show (if st.length ≤ 4 then some (vI (if (0 : Int).toNat = 0 then (if n32 x < n32 y then y else x) else (if n32 y < n32 x then y else x)) :: st, L, h) else none) = _
  rw [if_pos (Nat.le_of_ble_eq_true hs), if_pos (by decide), n32_of ix, n32_of iy]) kk
theorem X_gi (c d : Nat) (dz : Int) (hT : T[a]? = some (c, clN c, rr)) (hk : k.toNat / 100 = c ∧ k.toNat % 100 = d ∧ (d : Int) = dz) (hf : fT c d = 0 ∨ fT c d = 3) (kk : exL S r (vI (M a dz) :: st, L, T, M) = some τ) : exL S ((180, k, w) :: r) (vR a :: st, L, T, M) = some τ := X_c (by
  rw [ex_180]
  rw [hk.1, hk.2.1, ← hk.2.2]
  unfold x_get
  simp only
  rw [hT]
  simp only
  rw [if_pos ⟨trivial, trivial⟩, if_neg (by omega), if_neg (by omega)]) kk
theorem X_gl (c d : Nat) (dz : Int) (hT : T[a]? = some (c, clN c, rr)) (hk : k.toNat / 100 = c ∧ k.toNat % 100 = d ∧ (d : Int) = dz) (hf : fT c d = 1) (kk : exL S r (vL (M a dz) :: st, L, T, M) = some τ) : exL S ((180, k, w) :: r) (vR a :: st, L, T, M) = some τ := X_c (by
  rw [ex_180]
  rw [hk.1, hk.2.1, ← hk.2.2]
  unfold x_get
  simp only
  rw [hT]
  simp only
  rw [if_pos ⟨trivial, trivial⟩, if_pos hf]) kk
theorem X_gr (c d : Nat) (hT : T[a]? = some (c, clN c, rr)) (hk : k.toNat / 100 = c ∧ k.toNat % 100 = d) (hf : fT c d = 2) (hr : rr d = some b) (kk : exL S r (vR b :: st, L, T, M) = some τ) : exL S ((180, k, w) :: r) (vR a :: st, L, T, M) = some τ := X_c (by
  rw [ex_180]
  rw [hk.1, hk.2]
  unfold x_get
  simp only
  rw [hT]
  simp only
  rw [if_pos ⟨trivial, trivial⟩, if_neg (by omega), if_pos hf, hr]
  rfl) kk
theorem ex_181 (z w : Int) (σ : St) : ex S (181, z, w) σ = (if fT (z.toNat / 100) (z.toNat % 100) = 1 then x_putl (z.toNat / 100) (z.toNat % 100) else if fT (z.toNat / 100) (z.toNat % 100) = 2 then x_putr (z.toNat / 100) (z.toNat % 100) else x_puti (z.toNat / 100) (z.toNat % 100)) σ := rfl
theorem X_pi (c d : Nat) (dz : Int) (hT : T[a]? = some (c, clN c, rr)) (hk : k.toNat / 100 = c ∧ k.toNat % 100 = d ∧ (d : Int) = dz) (hf : fT c d = 0 ∨ (fT c d = 3 ∧ (z = 0 ∨ z = 1))) (kk : exL S r (st, L, T, um M a dz z) = some τ) : exL S ((181, k, w) :: r) (vI z :: vR a :: st, L, T, M) = some τ := X_c (by
  rw [ex_181, hk.1, hk.2.1, ← hk.2.2, if_neg (by omega), if_neg (by omega)]
  unfold x_puti
  simp only
  rw [hT]
  simp only
  rw [if_pos ⟨trivial, trivial, fun h3 => hf.elim (fun q => by omega) (fun q => q.2)⟩]) kk
theorem X_pl (c d : Nat) (dz : Int) (hT : T[a]? = some (c, clN c, rr)) (hk : k.toNat / 100 = c ∧ k.toNat % 100 = d ∧ (d : Int) = dz) (hf : fT c d = 1) (kk : exL S r (st, L, T, um M a dz z) = some τ) : exL S ((181, k, w) :: r) (vL z :: vR a :: st, L, T, M) = some τ := X_c (by
  rw [ex_181, hk.1, hk.2.1, ← hk.2.2, if_pos hf]
  unfold x_putl
  simp only
  rw [hT]
  simp only
  rw [if_pos ⟨trivial, trivial⟩]) kk
theorem X_pr (c d : Nat) (hT : T[a]? = some (c, clN c, rr)) (hk : k.toNat / 100 = c ∧ k.toNat % 100 = d) (hf : fT c d = 2) (kk : exL S r (st, L, T.set a (c, clN c, uf rr d (some b)), M) = some τ) : exL S ((181, k, w) :: r) (vR b :: vR a :: st, L, T, M) = some τ := X_c (by
  rw [ex_181, hk.1, hk.2, if_neg (by omega), if_pos hf]
  unfold x_putr
  simp only
  rw [hT]
  simp only
  rw [if_pos ⟨trivial, trivial⟩]) kk
theorem X_ia (hT : T[a]? = some (9, c, rr)) (g1 : 0 ≤ x) (g2 : x < (c : Int)) (g3 : Nat.ble c 1000 = true) (kk : exL S r (vI (M a x) :: st, L, T, M) = some τ) : exL S ((46, k, w) :: r) (vI x :: vR a :: st, L, T, M) = some τ := X_c (by
  have := Nat.le_of_ble_eq_true g3
  rw [ex_46]
  unfold x_iald
  simp only
  rw [hT]
  simp only
  rw [n32_of (by omega), if_pos ⟨trivial, g1, g2⟩]) kk
theorem X_io (hj : Nat.blt a 3 = true) (g1 : 0 ≤ x) (g2 : x < ((roL S a).length : Int)) (g3 : x < 2147483648) (kk : exL S r (vI ((roL S a).getD x.toNat 0) :: st, L, h) = some τ) : exL S ((46, k, w) :: r) (vI x :: vO a :: st, L, h) = some τ := X_c (by
  have := Nat.le_of_ble_eq_true hj
  rw [ex_46]
  unfold x_iald
  simp only
  rw [n32_of (by omega), if_pos ⟨this, g1, g2⟩]) kk
theorem X_is (hT : T[a]? = some (9, c, rr)) (g1 : 0 ≤ x) (g2 : x < (c : Int)) (g3 : Nat.ble c 1000 = true) (kk : exL S r (st, L, T, um M a x z) = some τ) : exL S ((79, k, w) :: r) (vI z :: vI x :: vR a :: st, L, T, M) = some τ := X_c (by
  have := Nat.le_of_ble_eq_true g3
  rw [ex_79]
  unfold x_iast
  simp only
  rw [hT]
  simp only
  rw [n32_of (by omega), if_pos ⟨trivial, g1, g2⟩]) kk
theorem X_ba (hT : T[a]? = some (d, c, rr)) (hd : d = 10 ∨ d = 11) (g1 : 0 ≤ x) (g2 : x < (c : Int)) (g3 : Nat.ble c 1000 = true) (kk : exL S r (vI (M a x) :: st, L, T, M) = some τ) : exL S ((51, k, w) :: r) (vI x :: vR a :: st, L, T, M) = some τ := X_c (by
  have := Nat.le_of_ble_eq_true g3
  rw [ex_51]
  unfold x_bald
  simp only
  rw [hT]
  simp only
  rw [n32_of (by omega), if_pos ⟨hd, g1, g2⟩]) kk
theorem X_bo (hj : 11 ≤ a ∧ a < 19) (g1 : 0 ≤ x) (g2 : x < ((roL S a).length : Int)) (g3 : x < 2147483648) (kk : exL S r (vI ((roL S a).getD x.toNat 0) :: st, L, h) = some τ) : exL S ((51, k, w) :: r) (vI x :: vO a :: st, L, h) = some τ := X_c (by
  rw [ex_51]
  unfold x_bald
  simp only
  rw [n32_of (by omega), if_pos ⟨hj, g1, g2⟩]) kk
theorem X_bs (hT : T[a]? = some (d, c, rr)) (hd : d = 10 ∨ d = 11) (g1 : 0 ≤ x) (g2 : x < (c : Int)) (g3 : Nat.ble c 1000 = true) (kk : exL S r (st, L, T, um M a x (if d = 10 then o_i2b z else o_nz z)) = some τ) : exL S ((84, k, w) :: r) (vI z :: vI x :: vR a :: st, L, T, M) = some τ := X_c (by
  have := Nat.le_of_ble_eq_true g3
  rw [ex_84]
  unfold x_bast
  simp only
  rw [hT]
  simp only
  rw [n32_of (by omega), if_pos ⟨hd, g1, g2⟩]) kk
theorem X_aa (hT : T[a]? = some (d, c, rr)) (hd : 12 ≤ d ∧ d < 15) (g1 : 0 ≤ x) (g2 : x < (c : Int)) (g3 : Nat.ble c 1000 = true) (hr : rr x.toNat = some b) (kk : exL S r (vR b :: st, L, T, M) = some τ) : exL S ((50, k, w) :: r) (vI x :: vR a :: st, L, T, M) = some τ := X_c (by
  have := Nat.le_of_ble_eq_true g3
  rw [ex_50]
  unfold x_aald
  simp only
  rw [hT]
  simp only
  rw [n32_of (by omega), if_pos ⟨hd, g1, g2⟩, hr]
  rfl) kk
theorem X_an (hT : T[a]? = some (d, c, rr)) (hd : 12 ≤ d ∧ d < 15) (g1 : 0 ≤ x) (g2 : x < (c : Int)) (g3 : Nat.ble c 1000 = true) (hr : rr x.toNat = none) (kk : exL S r (vN :: st, L, T, M) = some τ) : exL S ((50, k, w) :: r) (vI x :: vR a :: st, L, T, M) = some τ := X_c (by
  have := Nat.le_of_ble_eq_true g3
  rw [ex_50]
  unfold x_aald
  simp only
  rw [hT]
  simp only
  rw [n32_of (by omega), if_pos ⟨hd, g1, g2⟩, hr]
  rfl) kk
theorem X_as (hT : T[a]? = some (d, c, rr)) (hV : T[b]? = some (e, clN e, nn)) (hd : (d = 12 ∧ e = 5) ∨ (d = 13 ∧ e = 6)) (g1 : 0 ≤ x) (g2 : x < (c : Int)) (g3 : Nat.ble c 1000 = true) (kk : exL S r (st, L, T.set a (d, c, uf rr x.toNat (some b)), M) = some τ) : exL S ((83, k, w) :: r) (vR b :: vI x :: vR a :: st, L, T, M) = some τ := X_c (by
  have := Nat.le_of_ble_eq_true g3
  rw [ex_83]
  unfold x_aast
  simp only
  rw [hT]
  simp only
  rw [hV]
  simp only
  rw [n32_of (by omega), if_pos ⟨hd, g1, g2, trivial⟩]) kk
theorem X_len (hT : T[a]? = some (d, c, rr)) (hd : 9 ≤ d ∧ d < 15) (kk : exL S r (vI (c : Int) :: st, L, T, M) = some τ) : exL S ((190, k, w) :: r) (vR a :: st, L, T, M) = some τ := X_c (by
  rw [ex_190]
  unfold x_alen
  simp only
  rw [hT]
  simp only
  rw [if_pos hd]) kk
theorem X_lno (hj : a < 3 ∨ (11 ≤ a ∧ a < 19)) (kk : exL S r (vI ((roL S a).length : Int) :: st, L, h) = some τ) : exL S ((190, k, w) :: r) (vO a :: st, L, h) = some τ := X_c (by
  rw [ex_190]
  unfold x_alen
  simp only
  rw [if_pos hj]) kk
theorem X_gs0 (hj : 3 ≤ a ∧ a < 11) (kk : exL S r (vO (a + 8) :: st, L, h) = some τ) : exL S ((205, 0, w) :: r) (vO a :: st, L, h) = some τ := X_c (by
  rw [ex_205]
  unfold x_gstr
  simp only
  rw [if_pos hj, if_pos (by decide)]) kk
theorem X_gs1 (hj : 3 ≤ a ∧ a < 11) (kk : exL S r (vI 0 :: st, L, h) = some τ) : exL S ((205, 1, w) :: r) (vO a :: st, L, h) = some τ := X_c (by
  rw [ex_205]
  unfold x_gstr
  simp only
  rw [if_pos hj, if_neg (by decide)]) kk
theorem X_cp (hT : T[a]? = some (9, c, rr)) (hV : T[b]? = some (9, d, nn)) (g1 : 0 ≤ x ∧ x < 1000) (g2 : 0 ≤ y ∧ y < 1000) (g3 : 0 ≤ z ∧ z < 1000) (g4 : x + z ≤ (c : Int)) (g5 : y + z ≤ (d : Int)) (kk : exL S r ([], L, T, cpm M a b x y z) = some τ) : exL S ((201, k, w) :: r) ([vI z, vI y, vR b, vI x, vR a], L, T, M) = some τ := X_c (by
  rw [ex_201]
  unfold x_acp
  simp only
  rw [hT, hV]
  simp only
  rw [n32_of (by omega), n32_of (by omega), n32_of (by omega), if_pos ⟨trivial, trivial, g1.1, g2.1, g3.1, g4, g5⟩]) kk
theorem X_oi (kk : exL S r ([], L, h) = some τ) : exL S ((202, k, w) :: r) ([vR a], L, h) = some τ := X_c rfl kk
theorem X_new (kk : exL S r (vR T.length :: st, L, T ++ [(k.toNat, clN k.toNat, nor)], zm M T.length) = some τ) : exL S ((187, k, w) :: r) (st, L, T, M) = some τ := X_c rfl kk
theorem X_na (hk : 9 ≤ k.toNat ∧ k.toNat < 14) (g : 0 ≤ z ∧ z ≤ 1000) (kk : exL S r (vR T.length :: st, L, T ++ [(k.toNat, z.toNat, nor)], zm M T.length) = some τ) : exL S ((188, k, w) :: r) (vI z :: st, L, T, M) = some τ := X_c (by
  rw [ex_188]
  unfold x_newa
  simp only
  rw [n32_of (by omega), if_pos ⟨hk, g.1, g.2⟩]) kk
theorem X_mn (g : 0 ≤ z ∧ z ≤ 1000) (g2 : 0 ≤ y ∧ y ≤ 1000) (kk : exL S r (vR T.length :: st, L, T ++ (14, z.toNat, fun i => if i < z.toNat then some (T.length + 1 + i) else none) :: List.replicate z.toNat (9, y.toNat, nor), zm M T.length) = some τ) : exL S ((197, k, w) :: r) (vI y :: vI z :: st, L, T, M) = some τ := X_c (by
  rw [ex_197]
  unfold x_mna
  simp only
  rw [n32_of (by omega), n32_of (by omega), if_pos ⟨g.1, g.2, g2.1, g2.2⟩]) kk
end Xrows
/-! THE SHAPES: a State at b -/
def rSt (b : Nat) : Nat → Option Nat := uf (uf (uf (uf nor 0 (some (b + 1))) 1 (some (b + 4))) 2 (some (b + 23))) 3 (some (b + 26))
def rFl (b : Nat) : Nat → Option Nat := uf (uf nor 6 (some (b + 2))) 7 (some (b + 3))
def rBe (b : Nat) : Nat → Option Nat := uf (uf nor 0 (some (b + 5))) 4 (some (b + 6))
def rSl (b : Nat) : Nat → Option Nat := fun i => if i < 4 then some (b + 15 + 2 * i) else none
def rPa (b : Nat) : Nat → Option Nat := fun i => if i < 8 then some (b + 7 + i) else none
def rNo (b : Nat) : Nat → Option Nat := uf (uf nor 1 (some (b + 24))) 2 (some (b + 25))
def isSt (T : List Sh) (b : Nat) : Prop := T[b]? = some (6, 4, rSt b) ∧ T[b + 1]? = some (1, 9, rFl b) ∧ T[b + 2]? = some (9, 49, nor) ∧ T[b + 3]? = some (9, 49, nor) ∧ T[b + 4]? = some (0, 5, rBe b) ∧ T[b + 5]? = some (12, 4, rSl b) ∧ T[b + 6]? = some (14, 8, rPa b) ∧ (∀ i, i < 8 → T[b + 7 + i]? = some (9, 9, nor)) ∧ (∀ i, i < 4 → T[b + 15 + 2 * i]? = some (5, 1, uf nor 0 (some (b + 16 + 2 * i)))) ∧ (∀ i, i < 4 → T[b + 16 + 2 * i]? = some (9, 8, nor)) ∧ T[b + 23]? = some (3, 3, rNo b) ∧ T[b + 24]? = some (9, 8, nor) ∧ T[b + 25]? = some (9, 8, nor) ∧ T[b + 26]? = some (2, 3, nor)
section St
variable {T : List Sh} {b : Nat} {i : Nat}
theorem isSt.st (h : isSt T b) : T[b]? = some (6, 4, rSt b) := h.1
theorem isSt.fl (h : isSt T b) : T[b + 1]? = some (1, 9, rFl b) := h.2.1
theorem isSt.th (h : isSt T b) : T[b + 2]? = some (9, 49, nor) := h.2.2.1
theorem isSt.wy (h : isSt T b) : T[b + 3]? = some (9, 49, nor) := h.2.2.2.1
theorem isSt.be (h : isSt T b) : T[b + 4]? = some (0, 5, rBe b) := h.2.2.2.2.1
theorem isSt.sl (h : isSt T b) : T[b + 5]? = some (12, 4, rSl b) := h.2.2.2.2.2.1
theorem isSt.pa (h : isSt T b) : T[b + 6]? = some (14, 8, rPa b) := h.2.2.2.2.2.2.1
theorem isSt.ro (h : isSt T b) (hi : i < 8) : T[b + 7 + i]? = some (9, 9, nor) := h.2.2.2.2.2.2.2.1 i hi
theorem isSt.se (h : isSt T b) (hi : i < 4) : T[b + 15 + 2 * i]? = some (5, 1, uf nor 0 (some (b + 16 + 2 * i))) := h.2.2.2.2.2.2.2.2.1 i hi
theorem isSt.tr (h : isSt T b) (hi : i < 4) : T[b + 16 + 2 * i]? = some (9, 8, nor) := h.2.2.2.2.2.2.2.2.2.1 i hi
theorem isSt.no (h : isSt T b) : T[b + 23]? = some (3, 3, rNo b) := h.2.2.2.2.2.2.2.2.2.2.1
theorem isSt.wr (h : isSt T b) : T[b + 24]? = some (9, 8, nor) := h.2.2.2.2.2.2.2.2.2.2.2.1
theorem isSt.na (h : isSt T b) : T[b + 25]? = some (9, 8, nor) := h.2.2.2.2.2.2.2.2.2.2.2.2.1
theorem isSt.ni (h : isSt T b) : T[b + 26]? = some (2, 3, nor) := h.2.2.2.2.2.2.2.2.2.2.2.2.2
end St
theorem rcv_v {T : List Sh} {a c : Nat} {rr : Nat → Option Nat} {vs : List AV} (hT : T[a]? = some (c, clN c, rr)) (hc : c < 9) : rcv 1 c (vR a :: vs) T = true := by
  show isC c (vR a :: vs) T = true
  unfold isC
  simp only
  rw [hT]
  exact decide_eq_true ⟨rfl, rfl, hc⟩
/-! THE SHAPES: x, and the model -/
def rX : Nat → Option Nat := uf (uf (uf (uf (uf (uf (uf nor 0 (some 1)) 1 (some 28)) 2 (some 55)) 3 (some 56)) 4 (some 59)) 5 (some 60)) 6 (some 68)
def rSc : Nat → Option Nat := uf (uf nor 1 (some 57)) 2 (some 58)
def rM : Nat → Option Nat := uf (uf (uf (uf (uf (uf (uf (uf (uf (uf (uf nor 0 (some 77)) 1 (some 78)) 2 (some 79)) 4 (some 80)) 13 (some 81)) 14 (some 82)) 15 (some 83)) 16 (some 84)) 22 (some 85)) 23 (some 86)) 24 (some 87)
def rC1 : Nat → Option Nat := fun i => if i < 7 then some (61 + i) else none
def rC2 : Nat → Option Nat := fun i => if i < 7 then some (69 + i) else none
def isX (T : List Sh) : Prop := T[0]? = some (7, 9, rX) ∧ T[56]? = some (4, 7, rSc) ∧ T[57]? = some (10, 150, nor) ∧ T[58]? = some (9, 5, nor) ∧ T[59]? = some (9, 3, nor) ∧ T[60]? = some (14, 7, rC1) ∧ (∀ i, i < 7 → T[61 + i]? = some (9, 7, nor)) ∧ T[68]? = some (14, 7, rC2) ∧ (∀ i, i < 7 → T[69 + i]? = some (9, 7, nor)) ∧ isSt T 1 ∧ isSt T 28
def isM (T : List Sh) : Prop := T[76]? = some (8, 26, rM) ∧ T[77]? = some (9, 748, nor) ∧ T[78]? = some (11, 2, nor) ∧ T[79]? = some (9, 150, nor) ∧ T[80]? = some (9, 3, nor) ∧ T[81]? = some (9, 49, nor) ∧ T[82]? = some (9, 4, nor) ∧ T[83]? = some (9, 4, nor) ∧ T[84]? = some (9, 4, nor) ∧ T[85]? = some (9, 61, nor) ∧ T[86]? = some (9, 49, nor) ∧ T[87]? = some (9, 49, nor)
section XM
variable {T : List Sh} {i : Nat}
theorem isX.ob (h : isX T) : T[0]? = some (7, 9, rX) := h.1
theorem isX.sc (h : isX T) : T[56]? = some (4, 7, rSc) := h.2.1
theorem isX.by' (h : isX T) : T[57]? = some (10, 150, nor) := h.2.2.1
theorem isX.nu (h : isX T) : T[58]? = some (9, 5, nor) := h.2.2.2.1
theorem isX.re (h : isX T) : T[59]? = some (9, 3, nor) := h.2.2.2.2.1
theorem isX.c1 (h : isX T) : T[60]? = some (14, 7, rC1) := h.2.2.2.2.2.1
theorem isX.r1 (h : isX T) (hi : i < 7) : T[61 + i]? = some (9, 7, nor) := h.2.2.2.2.2.2.1 i hi
theorem isX.c2 (h : isX T) : T[68]? = some (14, 7, rC2) := h.2.2.2.2.2.2.2.1
theorem isX.r2 (h : isX T) (hi : i < 7) : T[69 + i]? = some (9, 7, nor) := h.2.2.2.2.2.2.2.2.1 i hi
theorem isX.s1 (h : isX T) : isSt T 1 := h.2.2.2.2.2.2.2.2.2.1
theorem isX.s2 (h : isX T) : isSt T 28 := h.2.2.2.2.2.2.2.2.2.2
theorem isM.ob (h : isM T) : T[76]? = some (8, 26, rM) := h.1
theorem isM.w (h : isM T) : T[77]? = some (9, 748, nor) := h.2.1
theorem isM.ke (h : isM T) : T[78]? = some (11, 2, nor) := h.2.2.1
theorem isM.te (h : isM T) : T[79]? = some (9, 150, nor) := h.2.2.2.1
theorem isM.re (h : isM T) : T[80]? = some (9, 3, nor) := h.2.2.2.2.1
theorem isM.fa (h : isM T) : T[81]? = some (9, 49, nor) := h.2.2.2.2.2.1
theorem isM.up (h : isM T) : T[82]? = some (9, 4, nor) := h.2.2.2.2.2.2.1
theorem isM.co (h : isM T) : T[83]? = some (9, 4, nor) := h.2.2.2.2.2.2.2.1
theorem isM.pa (h : isM T) : T[84]? = some (9, 4, nor) := h.2.2.2.2.2.2.2.2.1
theorem isM.wo (h : isM T) : T[85]? = some (9, 61, nor) := h.2.2.2.2.2.2.2.2.2.1
theorem isM.c1 (h : isM T) : T[86]? = some (9, 49, nor) := h.2.2.2.2.2.2.2.2.2.2.1
theorem isM.c2 (h : isM T) : T[87]? = some (9, 49, nor) := h.2.2.2.2.2.2.2.2.2.2.2
end XM
theorem rC1_at {i : Nat} (h : i < 7) : rC1 i = some (61 + i) := if_pos h
theorem rC2_at {i : Nat} (h : i < 7) : rC2 i = some (69 + i) := if_pos h
theorem rSl_at {b i : Nat} (h : i < 4) : rSl b i = some (b + 15 + 2 * i) := if_pos h
theorem rPa_at {b i : Nat} (h : i < 8) : rPa b i = some (b + 7 + i) := if_pos h
