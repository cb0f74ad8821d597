/-! THE HEAP'S INSTRUCTIONS -/
theorem cl_at : ∀ c, c < 9 → vwCl[c]? = some (clS c, clT c, clN c) := by
  intro c h
  match c, h with
  | 0, _ => rfl
  | 1, _ => rfl
  | 2, _ => rfl
  | 3, _ => rfl
  | 4, _ => rfl
  | 5, _ => rfl
  | 6, _ => rfl
  | 7, _ => rfl
  | 8, _ => rfl
  | _ + 9, h => omega
theorem cl_in : ∀ c, c < 9 → ∀ w ∈ u_ws (clS c) (clT c) (clN c), w ∈ lw_tbl ∧ goodWord w = true := by decide +kernel
theorem cl_tG {c : Nat} (h : c < 9) : ∀ w ∈ u_ws (clS c) (clT c) (clN c), w ∈ tG := fun w hw => tG_of (cl_in c h w hw).1 (cl_in c h w hw).2
def clY (c : Nat) : Nat → FieldType := match c with
  | 0 => tyX0
  | 1 => tyX1
  | 2 => tyX2
  | 3 => tyX3
  | 4 => tyX4
  | 5 => tyX5
  | 6 => tyX6
  | 7 => tyX7
  | _ => tyX8
theorem cl_ty : ∀ c, c < 9 → ∀ k, k < clN c → parseFieldDescriptor (clT c k).2.2.1 = some (clY c k) := by decide +kernel
theorem cl_nm : ∀ c, c < 9 → ∀ a, a < clN c → ∀ b, b < clN c → a ≠ b → (clT c a).2.1 ≠ (clT c b).2.1 := by decide +kernel
/-- the kind of a field's type -/
def kY (t : FieldType) : Nat := match t with
  | .int => 0
  | .long => 1
  | .boolean => 3
  | .object _ => 2
  | .array _ => 2
  | _ => 9
theorem kY_ok : ∀ c, c < 9 → ∀ k, k < clN c → kY (clY c k) = fT c k := by decide +kernel
theorem eC_o {P : Par} {c n : Nat} {r : Nat → Option Nat} {m : Int → Int} (h : c < 9) : eC P (c, n, r) m = .inr (c, (List.range n).map (fV P c m r)) := if_pos h
theorem eC_i {P : Par} {c n : Nat} {r : Nat → Option Nat} {m : Int → Int} (h : 9 ≤ c) (h2 : c < 12) : eC P (c, n, r) m = .inl (P.2.2.1 c, n, .inl (fun i => Int32.ofInt (m i))) := by
  unfold eC
  rw [if_neg (by show ¬ c < 9; omega), if_pos h2]
theorem eC_r {P : Par} {c n : Nat} {r : Nat → Option Nat} {m : Int → Int} (h : 12 ≤ c) : eC P (c, n, r) m = .inl (P.2.2.1 c, n, .inr (.inr (.inr (.inr (fun i => (r i).map (fun k => P.1 + k)))))) := by
  unfold eC
  rw [if_neg (by show ¬ c < 9; omega), if_neg (by show ¬ c < 12; omega)]
theorem fs_at {P : Par} {c n k : Nat} {r : Nat → Option Nat} {m : Int → Int} (h : k < n) : ((List.range n).map (fV P c m r))[k]? = some (fV P c m r k) := by
  rw [List.getElem?_map, List.getElem?_range h]; rfl
theorem fV_1 {P : Par} {c k : Nat} {r : Nat → Option Nat} {m : Int → Int} (h : fT c k = 1) : fV P c m r k = .long (Int64.ofInt (m k)) := if_pos h
theorem fV_2 {P : Par} {c k : Nat} {r : Nat → Option Nat} {m : Int → Int} (h : fT c k = 2) : fV P c m r k = cV P (rfv (r k)) := by
  unfold fV
  rw [if_neg (by omega), if_pos h]
theorem fV_0 {P : Par} {c k : Nat} {r : Nat → Option Nat} {m : Int → Int} (h1 : ¬ fT c k = 1) (h : ¬ fT c k = 2) : fV P c m r k = .int (Int32.ofInt (m k)) := by
  unfold fV
  rw [if_neg h1, if_neg h]
/-- two heaps' pictures are the same list -/
theorem ws_ext {P : Par} {h : Hp} {w : va_W} (hl : w.length = h.1.length) (ha : ∀ (k : Nat) (sh : Sh), h.1[k]? = some sh → w[k]? = some (P.1 + k, eC P sh (h.2 k))) : w = wsOf P h := by
  apply List.ext_getElem?
  intro k
  rw [ws_get]
  cases e : h.1[k]? with
  | none =>
    have := List.getElem?_eq_none_iff.mp e
    rw [List.getElem?_eq_none (by omega)]
    rfl
  | some sh => rw [ha k sh e]; rfl

theorem um_ne {M : Nat → Int → Int} {a j : Nat} {i z : Int} (h : ¬ a = j) : um M a i z j = M j := by
  funext q
  unfold um
  rw [if_neg (fun x => h x.1.symm)]
/-- one cell's picture changes -/
theorem ws_set {P : Par} {h h' : Hp} {a : Nat} {sh' : Sh} {x : va_E} (ha : a < h.1.length) (hl : h'.1.length = h.1.length) (hs : h'.1[a]? = some sh') (hx : eC P sh' (h'.2 a) = x) (ho : ∀ j, ¬ a = j → h'.1[j]? = h.1[j]? ∧ h'.2 j = h.2 j) :
    (wsOf P h).set a (P.1 + a, x) = wsOf P h' := by
  refine ws_ext (by rw [List.length_set, ws_len, hl]) (fun j sh hj => ?_)
  rw [List.getElem?_set]
  split
  · rename_i e
    subst e
    rw [if_pos (by rw [ws_len]; exact ha)]
    have e2 : sh = sh' := Option.some.inj (hj.symm.trans hs)
    rw [e2, hx]
  · rename_i hne
    obtain ⟨o1, o2⟩ := ho j hne
    rw [o1] at hj
    rw [ws_at hj, o2]
/-- one number of an object changes -/
theorem ws_um {P : Par} {T : List Sh} {M : Nat → Int → Int} {a c n : Nat} {r : Nat → Option Nat} {k : Nat} {z : Int} (hT : T[a]? = some (c, n, r)) (hc : c < 9) (hk : k < n) (v : Value) (hv : fV P c (um M a k z a) r k = v) (hn : ¬ fT c k = 2) :
    (wsOf P (T, M)).set a (P.1 + a, .inr (c, ((List.range n).map (fV P c (M a) r)).set k v)) = wsOf P (T, um M a k z) := by
  refine ws_set (h' := (T, um M a k z)) (List.getElem?_eq_some_iff.mp hT).1 rfl hT ?_ (fun j hj => ⟨rfl, um_ne hj⟩)
  rw [eC_o hc]
  congr 2
  apply List.ext_getElem?
  intro i
  rw [List.getElem?_set]
  split
  · rename_i e3
    subst e3
    rw [if_pos (by simpa using hk), fs_at hk, hv]
  · rename_i hne
    rw [List.getElem?_map, List.getElem?_map]
    by_cases hi : i < n
    · rw [List.getElem?_range hi]
      show some _ = some _
      congr 1
      unfold fV
      have e4 : um M a (k : Int) z a (i : Int) = M a (i : Int) := by
        unfold um
        rw [if_neg (fun q => hne (by have := q.2; omega))]
      simp only [e4]
    · rw [List.getElem?_eq_none (by simpa using hi)]; rfl
/-- one reference of an object changes -/
theorem ws_ur {P : Par} {T : List Sh} {M : Nat → Int → Int} {a c n : Nat} {r : Nat → Option Nat} {k v : Nat} (hT : T[a]? = some (c, n, r)) (hc : c < 9) (hk : k < n) (h2 : fT c k = 2) :
    (wsOf P (T, M)).set a (P.1 + a, .inr (c, ((List.range n).map (fV P c (M a) r)).set k (.ref (P.1 + v)))) = wsOf P (T.set a (c, n, uf r k (some v)), M) := by
  have hlt := (List.getElem?_eq_some_iff.mp hT).1
  refine ws_set (h' := (T.set a (c, n, uf r k (some v)), M)) (sh' := (c, n, uf r k (some v))) hlt (by simp) (by simp [hlt]) ?_ (fun j hj => ⟨by rw [List.getElem?_set_ne hj], rfl⟩)
  rw [eC_o hc]
  congr 2
  apply List.ext_getElem?
  intro i
  rw [List.getElem?_set]
  split
  · rename_i e3
    subst e3
    rw [if_pos (by simpa using hk), fs_at hk, fV_2 h2]
    unfold uf
    rw [if_pos rfl]
    rfl
  · rename_i hne
    rw [List.getElem?_map, List.getElem?_map]
    by_cases hi : i < n
    · rw [List.getElem?_range hi]
      show some _ = some _
      congr 1
      have e5 : uf r k (some v) i = r i := by
        unfold uf
        rw [if_neg (fun q => hne q.symm)]
      unfold fV
      simp only [e5]
    · rw [List.getElem?_eq_none (by simpa using hi)]; rfl
/-- one number of a row changes -/
theorem ws_ua {P : Par} {T : List Sh} {M : Nat → Int → Int} {a c n : Nat} {r : Nat → Option Nat} {i z : Int} {j : Nat} {v : Int32} (hT : T[a]? = some (c, n, r)) (h1 : 9 ≤ c) (h2 : c < 12) (hj : (j : Int) = i) (hv : Int32.ofInt z = v) :
    (wsOf P (T, M)).set a (P.1 + a, .inl (P.2.2.1 c, n, .inl (upd (fun q => Int32.ofInt (M a q)) j v))) = wsOf P (T, um M a i z) := by
  refine ws_set (h' := (T, um M a i z)) (List.getElem?_eq_some_iff.mp hT).1 rfl hT ?_ (fun j hj => ⟨rfl, um_ne hj⟩)
  rw [eC_i h1 h2]
  congr 4
  funext q
  show Int32.ofInt (um M a i z a q) = _
  unfold upd um
  by_cases e3 : q = j
  · rw [if_pos e3, if_pos ⟨rfl, by rw [e3]; exact hj⟩, hv]
  · rw [if_neg e3, if_neg (fun x => e3 (by have := x.2; omega))]
/-- one reference of a row changes -/
theorem ws_uq {P : Par} {T : List Sh} {M : Nat → Int → Int} {a c n : Nat} {r : Nat → Option Nat} {j v : Nat} (hT : T[a]? = some (c, n, r)) (h1 : 12 ≤ c) :
    (wsOf P (T, M)).set a (P.1 + a, .inl (P.2.2.1 c, n, .inr (.inr (.inr (.inr (va_up (fun i => (r i).map (fun k => P.1 + k)) j (some (P.1 + v)))))))) = wsOf P (T.set a (c, n, uf r j (some v)), M) := by
  have hlt := (List.getElem?_eq_some_iff.mp hT).1
  refine ws_set (h' := (T.set a (c, n, uf r j (some v)), M)) (sh' := (c, n, uf r j (some v))) hlt (by simp) (by simp [hlt]) ?_ (fun j hj => ⟨by rw [List.getElem?_set_ne hj], rfl⟩)
  rw [eC_r h1]
  congr 7
  funext i
  unfold va_up uf
  by_cases e : i = j
  · rw [if_pos e, if_pos e]; rfl
  · rw [if_neg e, if_neg e]
theorem sz_set {T : List Sh} {a c c' n : Nat} {r r' : Nat → Option Nat} (hT : T[a]? = some (c, n, r)) : sz (T.set a (c', n, r')) = sz T := by
  unfold sz
  rw [List.map_set]
  congr 1
  apply List.ext_getElem?
  intro i
  rw [List.getElem?_set]
  split
  · rename_i e
    subst e
    rw [List.getElem?_map, hT]
    simp only [List.length_map]
    rw [if_pos (List.getElem?_eq_some_iff.mp hT).1]
    rfl
  · rfl
theorem ws_lb {P : Par} {h : Hp} {H : Heap} (h0 : P.1 ≤ H.size) (hP : va_P P.2.1 vwCl (wsOf P h) H) : P.1 + h.1.length ≤ H.size := by
  cases hn : h.1.length with
  | zero => exact h0
  | succ n =>
    have hlt : n < h.1.length := by omega
    have e := ws_at (P := P) (h := h) (List.getElem?_eq_getElem hlt)
    have h9 : P.1 + n < H.size := (hP n _ e).lt
    omega
/-- an instruction that changes numbers or references of the heap, not how much there is -/
theorem gos_hp {S : List Int} {K : Mt} {pc q : Nat} {st st' : List AV} {L : List (Option AV)} {T T' : List Sh} {M M' : Nat → Int → Int} (hl : T'.length = T.length) (hz : sz T' = sz T)
    (k : ∀ (P : Par) (p : Program) (l : Launch) (e : Env) (R : Room) (s : State) (m : MethodId) (args : Array Value) (below : List Frame) (meth : Method) (c : Code) (Q : State → Prop) (H : Heap) (locs : List Loc) (cells slots : Nat) (ls : Array Slot),
      Cx S K P p R s m args meth c → hR P (T, M) H → va_S (aA P) s.heap H locs → lR P K.2.2.2.1 L ls → (∀ H' locs', va_P P.2.1 vwCl (wsOf P (T', M')) H' → va_S (aA P) s.heap H' locs' → W p l e R s m args below meth c H' locs' cells slots Q (F0 m q ls (st'.map (cV P)))) → W p l e R s m args below meth c H locs cells slots Q (F0 m pc ls (st.map (cV P)))) :
    Gos S K pc q (st, L, T, M) (st', L, T', M') :=
  ⟨⟨Nat.le_of_eq hl.symm, Nat.le_of_eq hz.symm⟩, fun P p l e R s m args below meth c Q t0 z0 C h0 _ _ _ a ls H locs h1 h2 h3 => k P p l e R s m args below meth c Q H locs _ _ ls C h2 h3 h1 (fun H' locs' e2 e3 X hX hSt => by
    have u1 := hSt.heapSize
    rw [hX] at u1
    have u2 := ws_lb (h := (T', M')) (Nat.le_trans (by rw [h0.1]; exact Nat.le_add_right _ _) e3.1) e2
    have u3 := h0.1
    have u4 := h0.2
    simp only at u1 u2 u4
    have := a ls H' locs' h1 ⟨by show H'.size = P.1 + T'.length; rw [hl] at u2 ⊢; omega, e2⟩ e3
    simp only [hl, hz] at this
    exact this X hX hSt)⟩

theorem ftc_lt (d : String) : ftc d < 4 := by
  unfold ftc
  by_cases h1 : d = "I"
  · rw [if_pos h1]; omega
  · rw [if_neg h1]
    by_cases h2 : d = "J"
    · rw [if_pos h2]; omega
    · rw [if_neg h2]
      by_cases h3 : d = "Z"
      · rw [if_pos h3]; omega
      · rw [if_neg h3]; omega
theorem b_fits {z : Int} (h : z = 0 ∨ z = 1) : narrow .boolean (.int (Int32.ofInt z)) = .int (Int32.ofInt z) ∧ fits .boolean (.int (Int32.ofInt z)) = true := by
  rcases h with rfl | rfl
  · exact ⟨by decide, by decide⟩
  · exact ⟨by decide, by decide⟩
section Ops3
variable {S : List Int} {K : Mt} {pc : Nat}

theorem s_get {c k i : Nat} (hd : decode K.2.2.1 pc = .ok (.getfield i, 3)) (hc : c < 9) (hk : k < clN c) (hw : Cond.fieldLink (clS K.1) i (clT c k).1 (clT c k).2.1 (clT c k).2.2.1 ∈ tG) : Seg S K pc (pc + 3) (x_get c k) := by
  rintro ⟨st, L, T, M⟩ σ' e
  unfold x_get at e
  split at e
  · rename_i a st0 hz
    simp only at hz
    subst hz
    split at e
    · rename_i c' n r hT
      split at e
      · rename_i hcn
        obtain ⟨rfl, rfl⟩ := hcn
        simp only at hT
        have key : ∀ v : AV, (∀ P : Par, cV P v = fV P c' (M a) r k) → Gos S K pc (pc + 3) (Sum.inr (Sum.inr (Sum.inl a)) :: st0, L, T, M) (v :: st0, L, T, M) := by
          intro v hv
          refine gos_st fun P p l e R s m args below meth c Q H locs cells slots ls C h2 h3 h1 x => ?_
          have hP := h2.2
          have he := ws_at (P := P) (h := (T, M)) hT
          rw [eC_o hc] at he
          exact va_get C.1 C.2.1 C.2.2.2.2.1 (cl_tG hc) C.2.2.2.1 C.2.2.2.2.2.2.2.2.1.1 hP a he (cl_at c' hc) k hk (C.2.2.2.2.1 _ hw) (fun _ h9 => h9) (fs_at hk) hd (by rw [← hv P]; exact x)
        split at e
        · rename_i f1
          cases e
          exact key _ (fun P => (fV_1 f1).symm)
        · rename_i f1
          split at e
          · rename_i f2
            cases e
            exact key _ (fun P => (fV_2 f2).symm)
          · rename_i f2
            cases e
            exact key _ (fun P => (fV_0 f1 f2).symm)
      · cases e
    · cases e
  · cases e

theorem s_puti {c k i : Nat} (hd : decode K.2.2.1 pc = .ok (.putfield i, 3)) (hc : c < 9) (hk : k < clN c) (hw : Cond.fieldLink (clS K.1) i (clT c k).1 (clT c k).2.1 (clT c k).2.2.1 ∈ tG) (hf : (clT c k).2.2.2 = false) (h1f : ¬ fT c k = 1) (h2f : ¬ fT c k = 2) : Seg S K pc (pc + 3) (x_puti c k) := by
  rintro ⟨st, L, T, M⟩ σ' e
  unfold x_puti at e
  split at e
  · rename_i z a st0 hz
    simp only at hz
    subst hz
    split at e
    · rename_i c' n r hT
      split at e
      · rename_i hcn
        simp only at hT
        obtain ⟨rfl, rfl, hb⟩ := hcn
        cases e
        refine gos_hp rfl rfl fun P p l e R s m args below meth c Q H locs cells slots ls C h2 h3 h1 x => ?_
        have he := ws_at (P := P) (h := (T, M)) hT
        rw [eC_o hc] at he
        have hY := kY_ok c' hc k hk
        have hnf : narrow (clY c' k) (.int (Int32.ofInt z)) = .int (Int32.ofInt z) ∧ fits (clY c' k) (.int (Int32.ofInt z)) = true := by
          cases hy : clY c' k with
          | int => exact ⟨rfl, rfl⟩
          | boolean => rw [hy] at hY; exact b_fits (hb hY.symm)
          | long => rw [hy] at hY; exact absurd hY.symm h1f
          | object _ => rw [hy] at hY; exact absurd hY.symm h2f
          | array _ => rw [hy] at hY; exact absurd hY.symm h2f
          | _ =>
            have h9 : fT c' k < 4 := by rw [fT_ok c' hc k hk]; exact ftc_lt _
            rw [hy] at hY
            have hY : 9 = fT c' k := hY
            omega
        refine va_put C.1 C.2.1 C.2.2.2.2.1 (cl_tG hc) (clY c') (cl_ty c' hc) (cl_nm c' hc) C.2.2.2.1 C.2.2.2.2.2.2.2.2.1.1 h2.2 (ws_D P (T, M)) h3 a he (cl_at c' hc) k hk (C.2.2.2.2.1 _ hw) (fun _ h9 => h9) hf (cl_ty c' hc k hk) hnf.1 hnf.2 (by simpa using hk) hd (fun H1 locs1 g1 g2 g3 => ?_)
        have e5 := ws_um (P := P) (M := M) (z := z) hT hc hk (.int (Int32.ofInt z)) (by rw [fV_0 h1f h2f]; unfold um; rw [if_pos ⟨rfl, rfl⟩]) h2f
        refine x H1 locs1 ?_ g3
        show va_P P.2.1 vwCl (wsOf P (T, um M a k z)) H1
        rw [← e5]
        exact g1
      · cases e
    · cases e
  · cases e

theorem s_putl {c k i : Nat} (hd : decode K.2.2.1 pc = .ok (.putfield i, 3)) (hc : c < 9) (hk : k < clN c) (hw : Cond.fieldLink (clS K.1) i (clT c k).1 (clT c k).2.1 (clT c k).2.2.1 ∈ tG) (hf : (clT c k).2.2.2 = false) (h1f : fT c k = 1) : Seg S K pc (pc + 3) (x_putl c k) := by
  rintro ⟨st, L, T, M⟩ σ' e
  unfold x_putl at e
  split at e
  · rename_i z a st0 hz
    simp only at hz
    subst hz
    split at e
    · rename_i c' n r hT
      split at e
      · rename_i hcn
        simp only at hT
        obtain ⟨rfl, rfl⟩ := hcn
        cases e
        refine gos_hp rfl rfl fun P p l e R s m args below meth c Q H locs cells slots ls C h2 h3 h1 x => ?_
        have he := ws_at (P := P) (h := (T, M)) hT
        rw [eC_o hc] at he
        have hY := kY_ok c' hc k hk
        have hnf : narrow (clY c' k) (.long (Int64.ofInt z)) = .long (Int64.ofInt z) ∧ fits (clY c' k) (.long (Int64.ofInt z)) = true := by
          cases hy : clY c' k with
          | long => exact ⟨rfl, rfl⟩
          | _ => rw [hy] at hY; exact absurd (hY.trans h1f) (by simp [kY])
        refine va_put C.1 C.2.1 C.2.2.2.2.1 (cl_tG hc) (clY c') (cl_ty c' hc) (cl_nm c' hc) C.2.2.2.1 C.2.2.2.2.2.2.2.2.1.1 h2.2 (ws_D P (T, M)) h3 a he (cl_at c' hc) k hk (C.2.2.2.2.1 _ hw) (fun _ h9 => h9) hf (cl_ty c' hc k hk) hnf.1 hnf.2 (by simpa using hk) hd (fun H1 locs1 g1 g2 g3 => ?_)
        have e5 := ws_um (P := P) (M := M) (z := z) hT hc hk (.long (Int64.ofInt z)) (by rw [fV_1 h1f]; unfold um; rw [if_pos ⟨rfl, rfl⟩]) (by omega)
        refine x H1 locs1 ?_ g3
        show va_P P.2.1 vwCl (wsOf P (T, um M a k z)) H1
        rw [← e5]
        exact g1
      · cases e
    · cases e
  · cases e

theorem s_putr {c k i : Nat} (hd : decode K.2.2.1 pc = .ok (.putfield i, 3)) (hc : c < 9) (hk : k < clN c) (hw : Cond.fieldLink (clS K.1) i (clT c k).1 (clT c k).2.1 (clT c k).2.2.1 ∈ tG) (hf : (clT c k).2.2.2 = true) (hn2 : K.2.1 = "<init>") (ho : (clT c k).1 = clS K.1) (h2f : fT c k = 2) : Seg S K pc (pc + 3) (x_putr c k) := by
  rintro ⟨st, L, T, M⟩ σ' e
  unfold x_putr at e
  split at e
  · rename_i v a st0 hz
    simp only at hz
    subst hz
    split at e
    · rename_i c' n r hT
      split at e
      · rename_i hcn
        simp only at hT
        obtain ⟨rfl, rfl⟩ := hcn
        cases e
        refine gos_hp (by simp) (sz_set hT) fun P p l e R s m args below meth c Q H locs cells slots ls C h2 h3 h1 x => ?_
        have he := ws_at (P := P) (h := (T, M)) hT
        rw [eC_o hc] at he
        have hY := kY_ok c' hc k hk
        have hnf : narrow (clY c' k) (.ref (P.1 + v)) = .ref (P.1 + v) ∧ fits (clY c' k) (.ref (P.1 + v)) = true := by
          cases hy : clY c' k with
          | object _ => exact ⟨rfl, rfl⟩
          | array _ => exact ⟨rfl, rfl⟩
          | _ => rw [hy] at hY; exact absurd (hY.trans h2f) (by simp [kY])
        refine va_putF C.1 C.2.1 C.2.2.2.2.1 (cl_tG hc) (clY c') (cl_ty c' hc) (cl_nm c' hc) C.2.2.2.1 C.2.2.2.2.2.2.2.2.1.1 h2.2 (ws_D P (T, M)) h3 a he (cl_at c' hc) k hk (C.2.2.2.2.1 _ hw) (fun _ h9 => h9) hf (C.2.2.2.2.2.1 hn2) ho (cl_ty c' hc k hk) hnf.1 hnf.2 (by simpa using hk) hd (fun H1 locs1 g1 g2 g3 => ?_)
        have e5 := ws_ur (P := P) (M := M) (v := v) hT hc hk h2f
        refine x H1 locs1 ?_ g3
        show va_P P.2.1 vwCl (wsOf P (T.set a (c', clN c', uf r k (some v)), M)) H1
        rw [← e5]
        exact g1
      · cases e
    · cases e
  · cases e

end Ops3
