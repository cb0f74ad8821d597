/-! LAST INSTRUCTIONS: least and most, copies, Object's constructor, rows of rows -/
theorem cat_le {P : Par} (v : AV) : (cV P v).category ≤ 2 := by
  cases h : cat1 v with
  | true => rw [cat1_k h]; omega
  | false => rw [cat1_c.mpr h]; omega
theorem cat_sum (P : Par) (st : List AV) : ((st.map (cV P)).map fun v => v.category).sum ≤ 2 * st.length := by
  induction st with
  | nil => simp
  | cons v t ih =>
    have := cat_le (P := P) v
    simp only [List.map_cons, List.sum_cons, List.length_cons]
    omega
/-- an instruction that leaves locals and heap, where the room is asked for -/
theorem gos_stc {S : List Int} {K : Mt} {pc q : Nat} {st st' : List AV} {L : List (Option AV)} {h : Hp}
    (k : ∀ (P : Par) (p : Program) (l : Launch) (e : Env) (R : Room) (s : State) (m : MethodId) (args : Array Value) (below : List Frame) (meth : Method) (c : Code) (Q : State → Prop) (H : Heap) (locs : List Loc) (cells slots : Nat) (ls : Array Slot),
      Cx S K P p R s m args meth c → hR P h H → va_S (aA P) s.heap H locs → lR P K.2.2.2.1 L ls → cells ≤ R.cells → slots ≤ R.slots → W p l e R s m args below meth c H locs cells slots Q (F0 m q ls (st'.map (cV P))) → W p l e R s m args below meth c H locs cells slots Q (F0 m pc ls (st.map (cV P)))) :
    Gos S K pc q (st, L, h) (st', L, h) :=
  ⟨LeT.rf _, fun P p l e R s m args below meth c Q t0 z0 C _ _ hc hs a ls H locs h1 h2 h3 => k P p l e R s m args below meth c Q H locs _ _ ls C h2 h3 h1 hc hs (a ls H locs h1 h2 h3)⟩
theorem ws_cp {P : Par} {T : List Sh} {M : Nat → Int → Int} {a d n0 n1 : Nat} {r0 r1 : Nat → Option Nat} {sp dp n : Int} (h0 : T[a]? = some (9, n0, r0)) (h1 : T[d]? = some (9, n1, r1)) (p0 : 0 ≤ sp) (p1 : 0 ≤ dp) (p2 : 0 ≤ n) :
    (wsOf P (T, M)).set d (P.1 + d, .inl (P.2.2.1 9, n1, .inl (va_cpy (fun i => Int32.ofInt (M a i)) (fun i => Int32.ofInt (M d i)) sp.toNat dp.toNat n.toNat))) = wsOf P (T, cpm M a d sp dp n) := by
  refine ws_set (h' := (T, cpm M a d sp dp n)) (List.getElem?_eq_some_iff.mp h1).1 rfl h1 ?_ (fun j hj => ⟨rfl, ?_⟩)
  · rw [eC_i (by omega) (by omega)]
    congr 4
    funext q
    show Int32.ofInt (cpm M a d sp dp n d q) = _
    unfold va_cpy cpm
    by_cases c : dp.toNat ≤ q ∧ q < dp.toNat + n.toNat
    · rw [if_pos c, if_pos ⟨rfl, by omega, by omega⟩]
      congr 2
      omega
    · rw [if_neg c, if_neg (fun z => c (by omega))]
  · funext q
    show cpm M a d sp dp n j q = M j q
    unfold cpm
    exact if_neg (fun z => hj z.1.symm)
section Ops5
variable {S : List Int} {K : Mt} {pc : Nat}
theorem s_max {i : Nat} (hd : decode K.2.2.1 pc = .ok (.invokestatic i, 3)) (w1 : Cond.methodLink (clS K.1) i Lib.Math.max.name ∈ tG) (w2 : Cond.static Lib.Math.max.name ∈ tG) (w3 : Cond.initialized "java/lang/Math" ∈ tG) (w4 : Cond.code Lib.Math.max.name Lib.Math.max.code 2 (some .int) ∈ tG) (hF : 1 ≤ K.2.2.2.2.1) (hL : 21 ≤ K.2.2.2.2.2) : Seg S K pc (pc + 3) (x_mm 0) := by
  rintro ⟨st, L, h⟩ σ' e
  unfold x_mm at e
  split at e
  · rename_i y x st0 hz
    simp only at hz
    subst hz
    split at e
    · rename_i hst
      cases e
      refine gos_stc fun P p l e R s m args below meth c Q H locs cells slots ls C h2 h3 h1 hc hs a => ?_
      refine va_mmax C.1 C.2.1 (C.2.2.1.trans h1.2.1.symm) C.2.2.2.1 (C.2.2.2.2.1 _ w1) (C.2.2.2.2.1 _ w2) (C.2.2.2.2.1 _ w3) (C.2.2.2.2.1 _ w4) (Nat.le_trans hF C.2.2.2.2.2.2.1) ?_ hc hs hd ?_
      · have := cat_sum P st0
        have := C.2.2.2.2.2.2.2.1
        omega
      · have e9 : (Value.int (if Int32.ofInt x < Int32.ofInt y then Int32.ofInt y else Int32.ofInt x)) = cV P (.inl (if n32 x < n32 y then y else x)) := by
          show _ = Value.int (Int32.ofInt (if n32 x < n32 y then y else x))
          by_cases c : n32 x < n32 y
          · rw [if_pos c, if_pos ((i32_lt x y).mpr c)]
          · rw [if_neg c, if_neg (fun z => c ((i32_lt x y).mp z))]
        rw [e9]
        exact a
    · cases e
  · cases e
theorem s_min {i : Nat} (hd : decode K.2.2.1 pc = .ok (.invokestatic i, 3)) (w1 : Cond.methodLink (clS K.1) i Lib.Math.min.name ∈ tG) (w2 : Cond.static Lib.Math.min.name ∈ tG) (w3 : Cond.initialized "java/lang/Math" ∈ tG) (w4 : Cond.code Lib.Math.min.name Lib.Math.min.code 2 (some .int) ∈ tG) (hF : 1 ≤ K.2.2.2.2.1) (hL : 21 ≤ K.2.2.2.2.2) : Seg S K pc (pc + 3) (x_mm 1) := by
  rintro ⟨st, L, h⟩ σ' e
  unfold x_mm at e
  split at e
  · rename_i y x st0 hz
    simp only at hz
    subst hz
    split at e
    · rename_i hst
      cases e
      refine gos_stc fun P p l e R s m args below meth c Q H locs cells slots ls C h2 h3 h1 hc hs a => ?_
      refine va_mmin C.1 C.2.1 (C.2.2.1.trans h1.2.1.symm) C.2.2.2.1 (C.2.2.2.2.1 _ w1) (C.2.2.2.2.1 _ w2) (C.2.2.2.2.1 _ w3) (C.2.2.2.2.1 _ w4) (Nat.le_trans hF C.2.2.2.2.2.2.1) ?_ hc hs hd ?_
      · have := cat_sum P st0
        have := C.2.2.2.2.2.2.2.1
        omega
      · have e9 : (Value.int (if Int32.ofInt y < Int32.ofInt x then Int32.ofInt y else Int32.ofInt x)) = cV P (.inl (if n32 y < n32 x then y else x)) := by
          show _ = Value.int (Int32.ofInt (if n32 y < n32 x then y else x))
          by_cases c : n32 y < n32 x
          · rw [if_pos c, if_pos ((i32_lt y x).mpr c)]
          · rw [if_neg c, if_neg (fun z => c ((i32_lt y x).mp z))]
        rw [e9]
        exact a
    · cases e
  · cases e
theorem s_oin {i : Nat} (hd : decode K.2.2.1 pc = .ok (.invokespecial i, 3)) (w1 : Cond.methodLink (clS K.1) i Lib.objectInit ∈ tG) (w2 : Cond.instanceMethod Lib.objectInit ∈ tG) (w3 : Cond.code Lib.objectInit ⟨#[0xb1]⟩ 1 none ∈ tG) (hF : 1 ≤ K.2.2.2.2.1) (hL : 12 ≤ K.2.2.2.2.2) : Seg S K pc (pc + 3) x_oin := by
  rintro ⟨st, L, h⟩ σ' e
  unfold x_oin at e
  split at e
  · rename_i a hz
    simp only at hz
    subst hz
    cases e
    refine gos_stc fun P p l e R s m args below meth c Q H locs cells slots ls C h2 h3 h1 hc hs x => ?_
    refine W.objInit C.1 C.2.1 C.2.2.2.1 (C.2.2.2.2.1 _ w1) (C.2.2.2.2.1 _ w2) (C.2.2.2.2.1 _ w3) rfl (h1.2.1.trans C.2.2.1.symm) rfl hd (Nat.le_trans hF C.2.2.2.2.2.2.1) ?_ x
    show 2 * 0 + 0 + 12 ≤ R.locals
    have := C.2.2.2.2.2.2.2.1
    omega
  · cases e
theorem s_acp {i : Nat} (hd : decode K.2.2.1 pc = .ok (.invokestatic i, 3)) (w1 : Cond.methodLink (clS K.1) i arraycopyName ∈ tG) (w2 : Cond.native arraycopyName ∈ tG) (w3 : Cond.static arraycopyName ∈ tG) (w4 : Cond.initialized "java/lang/System" ∈ tG) (hF : 1 ≤ K.2.2.2.2.1) (hL : 40 ≤ K.2.2.2.2.2) : Seg S K pc (pc + 3) x_acp := by
  rintro ⟨st, L, T, M⟩ σ' e
  unfold x_acp at e
  split at e
  · rename_i n dp d sp a hz
    simp only at hz
    subst hz
    split at e
    · rename_i k0 n0 r0 k1 n1 r1 hT0 hT1
      split at e
      · rename_i hg
        obtain ⟨rfl, rfl, g1, g2, g3, g4, g5⟩ := hg
        simp only at hT0 hT1
        cases e
        refine gos_hp rfl rfl fun P p l e R s m args below meth c Q H locs cells slots ls C h2 h3 h1 x => ?_
        have he0 := ws_at (P := P) (h := (T, M)) hT0
        rw [eC_i (by omega) (by omega)] at he0
        have he1 := ws_at (P := P) (h := (T, M)) hT1
        rw [eC_i (by omega) (by omega)] at he1
        refine va_copyi C.1 C.2.1 (C.2.2.1.trans h1.2.1.symm) C.2.2.2.1 (C.2.2.2.2.1 _ w1) (C.2.2.2.2.1 _ w2) (C.2.2.2.2.1 _ w3) (C.2.2.2.2.1 _ w4) C.2.2.2.2.2.2.2.2.1.1 h2.2 (ws_D P (T, M)) h3 a d 0 0 he0 he1 rfl rfl rfl (i32_nn g1) (i32_nn g2) (i32_nn g3) (by rw [i32_clamp, i32_clamp]; omega) (by rw [i32_clamp, i32_clamp]; omega) (fun _ _ => rfl) (Nat.le_trans hF C.2.2.2.2.2.2.1) ?_ hd (fun H1 locs1 y1 y2 y3 => ?_)
        · show 0 + (nativeFrameWords "java/lang/System" "arraycopy" 5 + 11) ≤ R.locals
          have e7 : nativeFrameWords "java/lang/System" "arraycopy" 5 = 7 := by decide
          have := C.2.2.2.2.2.2.2.1
          rw [e7]
          omega
        · have e5 := ws_cp (P := P) (M := M) hT0 hT1 g1 g2 g3
          rw [i32_clamp, i32_clamp, i32_clamp] at y1
          refine x H1 locs1 ?_ y3
          show va_P P.2.1 vwCl (wsOf P (T, cpm M a d (n32 sp) (n32 dp) (n32 n))) H1
          rw [← e5]
          exact y1
      · cases e
    · cases e
  · cases e
theorem sz_rep (n k : Nat) : sz (List.replicate n ((9, k, nor) : Sh)) = n * k := by
  unfold sz
  rw [List.map_replicate, List.sum_replicate_nat]
theorem s_mna {i : Nat} (hd : decode K.2.2.1 pc = .ok (.multianewarray i 2, 4)) (w1 : Cond.classLink (clS K.1) i "[[I" ∈ tG) (w2 : Cond.arrayOver (.array .int) ∈ nW) (w3 : Cond.arrayClass .int ∈ tG) : Seg S K pc (pc + 4) x_mna := by
  rintro ⟨st, L, T, M⟩ σ' e
  unfold x_mna at e
  split at e
  · rename_i y z st0 hz
    simp only at hz
    subst hz
    split at e
    · rename_i hg
      obtain ⟨g1, g2, g3, g4⟩ := hg
      cases e
      simp only
      generalize hn : (n32 z).toNat = n
      generalize hk : (n32 y).toNat = k
      have eL : (T ++ ((14, n, fun i => if i < n then some (T.length + 1 + i) else none) : Sh) :: List.replicate n (9, k, nor)).length = T.length + (1 + n) := by simp; omega
      have eZ : sz (T ++ ((14, n, fun i => if i < n then some (T.length + 1 + i) else none) : Sh) :: List.replicate n (9, k, nor)) = sz T + (n + n * k) := by
        rw [sz_app]
        show _ + (n + sz (List.replicate n (9, k, nor))) = _
        rw [sz_rep]
      refine ⟨⟨by show _ ≤ List.length _; rw [eL]; exact Nat.le_add_right _ _, by show _ ≤ sz _; rw [eZ]; exact Nat.le_add_right _ _⟩, fun P p l e R s m args below meth c Q t0 z0 C h0 hz0 hc hs a ls H locs h1 h2 h3 X hX hSt => ?_⟩
      have u3 := h0.1
      have u4 : t0 ≤ T.length := h0.2
      have u5 : z0 ≤ sz T := hz0
      simp only [eL, eZ] at hc hs
      have hnn : (Int32.ofInt z).toNatClampNeg = n := by rw [i32_clamp, hn]
      have hkk : (Int32.ofInt y).toNatClampNeg = k := by rw [i32_clamp, hk]
      obtain ⟨cA, cI, Z, hfA, hfC, X1, f1, fo, f2, fi, step⟩ := gr_mna (own := clS K.1) (index := i) hSt C.1 C.2.2.2.1 (C.2.2.2.2.1 _ w1) (gr_keep (a' := args) (s := s) (v := s.vm) (Vm.Alike.refl _) (.array .int) (C.2.2.2.2.2.2.2.2.1.2.1 _ w2)) (C.2.2.2.2.1 _ w3)
        (g := F0 m pc ls (.int (Int32.ofInt y) :: .int (Int32.ofInt z) :: st0.map (cV P))) rfl (by rw [C.2.1]; exact hd) rfl (i32_nn g1) (i32_nn g3) hnn hkk (by omega) (by omega) (by simp only at hc ⊢; omega) (by simp only at hs ⊢; omega)
      have c14 : cA = P.2.2.1 14 := by
        have c2 : s.vm.findClass "[[I" = some (P.2.2.1 14) := (C.2.2.2.2.2.2.2.2.1.1.2 5 _ rfl).2
        exact Option.some.inj (hfA.symm.trans c2)
      have c9 : cI = P.2.2.1 9 := by
        have c2 : s.vm.findClass "[I" = some (P.2.2.1 9) := (C.2.2.2.2.2.2.2.2.1.1.2 0 _ rfl).2
        exact Option.some.inj (hfC.symm.trans c2)
      subst c14 c9
      have hXs : X.heap.size = P.1 + T.length := by rw [hX]; exact h2.1
      have hP' : va_P P.2.1 vwCl (wsOf P (T ++ ((14, n, fun i => if i < n then some (T.length + 1 + i) else none) : Sh) :: List.replicate n (9, k, nor), zm M T.length)) Z.heap := by
        intro j q hq
        rw [ws_get] at hq
        by_cases hj : j < T.length
        · simp only at hq
          rw [List.getElem?_append_left hj, List.getElem?_eq_getElem hj] at hq
          cases hq
          have e8 : zm M T.length j = M j := by
            funext i
            unfold zm
            rw [if_neg (by omega)]
          have h8 := h2.2 j _ (ws_at (P := P) (h := (T, M)) (List.getElem?_eq_getElem hj))
          show va_at P.2.1 vwCl (P.1 + j, eC P T[j] (zm M T.length j)) _
          rw [e8]
          exact va_at.kept h8 (by show _ = H[P.1 + j]?; rw [fo _ (by omega)]; exact congrArg (fun h : Heap => h[P.1 + j]?) hX)
        · have e8 : zm M T.length j = fun _ => 0 := by
            funext i
            unfold zm
            rw [if_pos (by omega)]
          simp only at hq
          rw [List.getElem?_append_right (by omega), e8] at hq
          cases hj2 : j - T.length with
          | zero =>
            rw [hj2] at hq
            cases hq
            have ej : P.1 + j = X.heap.size := by omega
            show Z.heap[P.1 + j]? = some (vp_cell (P.2.2.1 14) (n, .inr (.inr (.inr (.inr (fun i => (if i < n then some (T.length + 1 + i) else none : Option Nat).map (fun k => P.1 + k)))))))
            rw [ej, f2, vp_cell_q]
            congr 2
            funext q
            by_cases hq : q < n
            · rw [if_pos hq, if_pos hq, hXs]
              exact congrArg Value.ref (by omega : P.1 + T.length + 1 + q = P.1 + (T.length + 1 + q))
            · rw [if_neg hq, if_neg hq]; rfl
          | succ i9 =>
            rw [hj2] at hq
            simp only [List.getElem?_cons_succ, List.getElem?_replicate] at hq
            split at hq
            · rename_i hi9
              cases hq
              have ej : P.1 + j = X.heap.size + 1 + i9 := by omega
              show Z.heap[P.1 + j]? = some (vp_cell (P.2.2.1 9) (k, .inl (fun _ => 0)))
              rw [ej, fi i9 hi9]
              rfl
            · cases hq
      have w := a ls Z.heap (locs ++ (List.range n).map fun j => ⟨X.heap.size, j⟩) h1 ⟨by show _ = P.1 + List.length _; rw [eL, f1]; omega, hP'⟩ ⟨by rw [f1]; omega, fun q q1 q2 => by
          rw [fo q (by omega)]
          have := h3.2.1 q q1 q2
          rw [← hX] at this
          exact this, fun q hq => by
          rcases List.mem_append.mp hq with h | h
          · exact h3.2.2 q h
          · obtain ⟨j, -, hj⟩ := List.mem_map.mp h
            rw [← hj]
            show P.1 ≤ X.heap.size
            omega⟩
      have ec : T.length - t0 + 1 + n = T.length + (1 + n) - t0 := by omega
      have es : sz T - z0 + n + n * k = sz T + (n + n * k) - z0 := by omega
      rw [ec, es] at X1
      simp only [eL, eZ] at w
      obtain ⟨t, a1, b1⟩ := w _ rfl X1
      refine ⟨t, step t ?_, b1⟩
      rw [hXs]
      exact a1
    · cases e
  · cases e
end Ops5
