/-! CALLS, AND THE WHOLE RUN -/
theorem gW {w : Cond} (h : w ∈ tG) : w ∈ tG ∧ ((w.onTables && w.keeps) = true ∨ ∃ ty, w = .arrayClass ty) := ⟨h, good_of_word (tG_good w h).2⟩
theorem gIn {m : Nat} (hm : m < 205) : GoodIn tG (cW m :: tG) := by
  intro w hw
  rcases List.mem_cons.mp hw with rfl | hw
  · exact gW (cw_all m hm)
  · exact gW hw
theorem blind (S : List Int) (P : Par) (vs : List AV) (h : Hp) : FrameBlind (PcM S P vs h) := by
  intro a U g mk q
  obtain ⟨q0, q1, q2⟩ := q
  exact ⟨q0, q1, q2.calling⟩
theorem pcm_at {S : List Int} {K : Mt} {P : Par} {p : Program} {R : Room} {s : State} {m : MethodId} {args : Array Value} {meth : Method} {c : Code} {vs : List AV} {h : Hp} {H : Heap} {locs : List Loc} (C : Cx S K P p R s m args meth c) (h2 : hR P h H) (h3 : va_S (aA P) s.heap H locs) : ∀ U : State, U.heap = H → s.WarmedH U.vm → PcM S P vs h (vs.map (cV P)).toArray U := by
  intro U hU hW
  exact ⟨rfl, by rw [hU]; exact h2, C.2.2.2.2.2.2.2.2.1.goes hW (fun a a1 a2 => by rw [hU]; exact h3.2.1 a a1 a2)⟩
theorem take_map {st : List AV} {n : Nat} {P : Par} : st.map (cV P) = ((st.take n).reverse.map (cV P)).reverse ++ (st.drop n).map (cV P) := by
  rw [← List.map_reverse, List.reverse_reverse, ← List.map_append, List.take_append_drop]
theorem room_ok {P : Par} {m : MethodId} {pc : Nat} {ls : Array Slot} {rs : List Value} {st : List AV} (h : st.length ≤ 4) : 2 * (F0 m pc ls rs).monitorRoom + ((st.map (cV P)).map fun v => v.category).sum ≤ 8 := by
  have := cat_sum P st
  exact lv_room (by omega)
theorem vs_len {st : List AV} {n : Nat} (h : n ≤ st.length) : (st.take n).reverse.length = n := by
  rw [List.length_reverse, List.length_take]
  omega
section Calls
variable {S : List Int} {K : Mt} {pc m' n : Nat} {st : List AV} {L L' : List (Option AV)} {h : Hp} {r : Option AV × Hp} {i : Nat}
theorem call_s (hd : decode K.2.2.1 pc = .ok (.invokestatic i, 3)) (hm : m' < 205) (w1 : Cond.methodLink (clS K.1) i (mY m') ∈ tG) (w2 : Cond.static (mY m') ∈ tG) (hR : (mK m').2.2.2.2.1 + 1 ≤ K.2.2.2.2.1 ∧ 8 + ((mK m').2.2.2.1 + 11) + (mK m').2.2.2.2.2 ≤ K.2.2.2.2.2) (hn : n = mN m') (h1 : n ≤ st.length) (h2 : st.length ≤ n + 4)
    (hi : ini (mB m').1 (st.take n).reverse = some L') (k : Rok S m' 0 ([], L', h) r) : Gos S K pc (pc + 3) (st, L, h) (r.1.toList ++ st.drop n, L, r.2) := by
  obtain ⟨y1, y2, y3, y4, y5, y6, y7⟩ := y_facts hm
  refine gos_call k.1 (fun P p l e R s m args below meth c H locs cells slots ls C g2 g3 g1 hc hs => ⟨((st.take n).reverse.map (cV P)).toArray, ?_⟩)
  refine va_runS (Ts := tG) (As := (st.take n).reverse.map (cV P)) ⟨C.1, C.2.1, C.2.2.1, C.2.2.2.1, C.2.2.2.2.1⟩ (met_of hm hi k l P) (va_cwS (ws' := tG) (mN m') C.2.2.2.2.1 ?_ rfl rfl rfl ⟨y5.1, y5.2, y6⟩ ⟨Nat.le_trans hR.1 C.2.2.2.2.2.2.1, Nat.le_trans hR.2 C.2.2.2.2.2.2.2.1⟩) ⟨blind S P _ h, pcm_at C g2 g3⟩ rfl (by rw [List.length_map, vs_len h1, hn]) g1.2.1 take_map (room_ok (by rw [List.length_drop]; omega)) hd ⟨hc, hs⟩
  intro w hw
  unfold va_wsS at hw
  rcases List.mem_append.mp hw with hw | hw
  · simp only [List.mem_cons, List.not_mem_nil, or_false] at hw
    rcases hw with rfl | rfl | rfl
    · exact gW w1
    · exact gW w2
    · exact gW y7
  · exact gIn hm w hw
theorem call_sn (hd : decode K.2.2.1 pc = .ok (.invokestatic i, 3)) (hm : m' < 205) (w1 : Cond.methodLinkNest (clS K.1) i (mY m') "LastAwake" ∈ nW) (w2 : Cond.static (mY m') ∈ tG) (hR : (mK m').2.2.2.2.1 + 1 ≤ K.2.2.2.2.1 ∧ 8 + ((mK m').2.2.2.1 + 11) + (mK m').2.2.2.2.2 ≤ K.2.2.2.2.2) (hn : n = mN m') (h1 : n ≤ st.length) (h2 : st.length ≤ n + 4)
    (hi : ini (mB m').1 (st.take n).reverse = some L') (k : Rok S m' 0 ([], L', h) r) : Gos S K pc (pc + 3) (st, L, h) (r.1.toList ++ st.drop n, L, r.2) := by
  obtain ⟨y1, y2, y3, y4, y5, y6, y7⟩ := y_facts hm
  refine gos_call k.1 (fun P p l e R s m args below meth c H locs cells slots ls C g2 g3 g1 hc hs => ⟨((st.take n).reverse.map (cV P)).toArray, ?_⟩)
  exact va_runSN (Ts := tG) (As := (st.take n).reverse.map (cV P)) ⟨C.1, C.2.1, C.2.2.1, C.2.2.2.1, C.2.2.2.2.1⟩ (met_of hm hi k l P) ⟨va_cnB (ws' := tG) (mN m') C.2.2.2.2.1 (gIn hm) rfl rfl rfl (C.2.2.2.2.2.2.2.2.1.2.1 _ w1) (C.2.2.2.2.1 _ y7) ⟨y5.1, y5.2, y6⟩ ⟨Nat.le_trans hR.1 C.2.2.2.2.2.2.1, Nat.le_trans hR.2 C.2.2.2.2.2.2.2.1⟩, C.2.2.2.2.1 _ w2, trivial⟩ ⟨blind S P _ h, pcm_at C g2 g3⟩ rfl (by rw [List.length_map, vs_len h1, hn]) g1.2.1 take_map (room_ok (by rw [List.length_drop]; omega)) hd ⟨hc, hs⟩
theorem ref_split {P : Par} {b : AV} {As : List AV} {a : Nat} (hb : cV P b = .ref a) (he : (st.take n).reverse = b :: As) : st.map (cV P) = (As.map (cV P)).reverse ++ .ref a :: (st.drop n).map (cV P) := by
  have e0 := take_map (st := st) (n := n) (P := P)
  rw [e0, he, List.map_cons, hb, List.reverse_cons, List.append_assoc]
  rfl
theorem call_i (hd : decode K.2.2.1 pc = .ok (.invokespecial i, 3)) (hm : m' < 205) (w1 : Cond.methodLink (clS K.1) i (mY m') ∈ tG) (w2 : Cond.instanceMethod (mY m') ∈ tG) (hin : (mY m').name = "<init>" ∧ (mB m').2.1 = 0) (hR : (mK m').2.2.2.2.1 + 1 ≤ K.2.2.2.2.1 ∧ 8 + ((mK m').2.2.2.1 + 11) + (mK m').2.2.2.2.2 ≤ K.2.2.2.2.2) (hn : n = mN m' + 1) (h1 : n ≤ st.length) (h2 : st.length ≤ n + 4) (hr : isR (st.take n).reverse = true)
    (hi : ini (mB m').1 (st.take n).reverse = some L') (k : Rok S m' 0 ([], L', h) r) : Gos S K pc (pc + 3) (st, L, h) (r.1.toList ++ st.drop n, L, r.2) := by
  obtain ⟨y1, y2, y3, y4, y5, y6, y7⟩ := y_facts hm
  unfold isR at hr
  split at hr
  · rename_i a As he
    have hl := vs_len h1
    rw [he] at hl
    refine gos_call k.1 (fun P p l e R s m args below meth c H locs cells slots ls C g2 g3 g1 hc hs => ⟨((st.take n).reverse.map (cV P)).toArray, ?_⟩)
    have hM := met_of hm hi k l P
    have hp := pcm_at (vs := (st.take n).reverse) C g2 g3
    have hcw := cwI (ws := cW m' :: tG) (ws' := tG) (bytes := (mK m').2.2.1) (maxL := (mK m').2.2.2.1) (rm := rmM m' (r.2.1.length - h.1.length) (sz r.2.1 - sz h.1)) (R := R) (mN m') C.2.2.2.2.1 (gIn hm) (by show (.code _ _ _ (rtT (mB m').2.1) :: tG) = _; rw [hin.2]; rfl) rfl rfl (C.2.2.2.2.1 _ y7) (C.2.2.2.2.1 _ w1) (C.2.2.2.2.1 _ w2) hin.1 ⟨y5.1, y5.2, y6⟩ ⟨Nat.le_trans hR.1 C.2.2.2.2.2.2.1, Nat.le_trans hR.2 C.2.2.2.2.2.2.2.1⟩
    rw [he] at hM hp ⊢
    exact va_runI (Ts := tG) (b := P.1 + a) (As := As.map (cV P)) ⟨C.1, C.2.1, C.2.2.1, C.2.2.2.1, C.2.2.2.2.1⟩ hM hcw ⟨blind S P _ h, hp⟩ rfl (by rw [List.length_map]; simp only [List.length_cons] at hl; omega) g1.2.1 (ref_split rfl he) (room_ok (by rw [List.length_drop]; omega)) hd ⟨hc, hs⟩
  · cases hr
theorem call_in (hd : decode K.2.2.1 pc = .ok (.invokespecial i, 3)) (hm : m' < 205) (w1 : Cond.methodLinkNest (clS K.1) i (mY m') "LastAwake" ∈ nW) (w2 : Cond.instanceMethod (mY m') ∈ tG) (hin : (mY m').name = "<init>" ∧ (mB m').2.1 = 0) (hR : (mK m').2.2.2.2.1 + 1 ≤ K.2.2.2.2.1 ∧ 8 + ((mK m').2.2.2.1 + 11) + (mK m').2.2.2.2.2 ≤ K.2.2.2.2.2) (hn : n = mN m' + 1) (h1 : n ≤ st.length) (h2 : st.length ≤ n + 4) (hr : isR (st.take n).reverse = true)
    (hi : ini (mB m').1 (st.take n).reverse = some L') (k : Rok S m' 0 ([], L', h) r) : Gos S K pc (pc + 3) (st, L, h) (r.1.toList ++ st.drop n, L, r.2) := by
  obtain ⟨y1, y2, y3, y4, y5, y6, y7⟩ := y_facts hm
  unfold isR at hr
  split at hr
  · rename_i a As he
    have hl := vs_len h1
    rw [he] at hl
    refine gos_call k.1 (fun P p l e R s m args below meth c H locs cells slots ls C g2 g3 g1 hc hs => ⟨((st.take n).reverse.map (cV P)).toArray, ?_⟩)
    have hM := met_of hm hi k l P
    have hp := pcm_at (vs := (st.take n).reverse) C g2 g3
    have hcw := va_cnB (ws := cW m' :: tG) (ws' := tG) (bytes := (mK m').2.2.1) (maxL := (mK m').2.2.2.1) (ret := none) (rm := rmM m' (r.2.1.length - h.1.length) (sz r.2.1 - sz h.1)) (R := R) (mN m') C.2.2.2.2.1 (gIn hm) (by show (.code _ _ _ (rtT (mB m').2.1) :: tG) = _; rw [hin.2]; rfl) rfl rfl (C.2.2.2.2.2.2.2.2.1.2.1 _ w1) (C.2.2.2.2.1 _ y7) ⟨y5.1, y5.2, y6⟩ ⟨Nat.le_trans hR.1 C.2.2.2.2.2.2.1, Nat.le_trans hR.2 C.2.2.2.2.2.2.2.1⟩
    rw [he] at hM hp ⊢
    exact va_runIN (Ts := tG) (b := P.1 + a) (As := As.map (cV P)) ⟨C.1, C.2.1, C.2.2.1, C.2.2.2.1, C.2.2.2.2.1⟩ hM ⟨hcw, hin.1, C.2.2.2.2.1 _ w2⟩ ⟨blind S P _ h, hp⟩ rfl (by rw [List.length_map]; simp only [List.length_cons] at hl; omega) g1.2.1 (ref_split rfl he) (room_ok (by rw [List.length_drop]; omega)) hd ⟨hc, hs⟩
  · cases hr
theorem call_v {rc : Nat} (hd : decode K.2.2.1 pc = .ok (.invokevirtual i, 3)) (hm : m' < 205) (w1 : Cond.methodLink (clS K.1) i (mY m') ∈ tG) (w2 : Cond.instanceMethod (mY m') ∈ tG) (w3 : Cond.selects (clS rc) (mY m') (mY m') ∈ tG) (hC : (mY m').cls = clS rc) (hrc : rc < 9 ∨ rc = 13) (hR : (mK m').2.2.2.2.1 + 1 ≤ K.2.2.2.2.1 ∧ 8 + ((mK m').2.2.2.1 + 11) + (mK m').2.2.2.2.2 ≤ K.2.2.2.2.2) (hn : n = mN m' + 1) (h1 : n ≤ st.length) (h2 : st.length ≤ n + 4) (hr : isC rc (st.take n).reverse h.1 = true)
    (hi : ini (mB m').1 (st.take n).reverse = some L') (k : Rok S m' 0 ([], L', h) r) : Gos S K pc (pc + 3) (st, L, h) (r.1.toList ++ st.drop n, L, r.2) := by
  obtain ⟨y1, y2, y3, y4, y5, y6, y7⟩ := y_facts hm
  have hG : GoodIn tG (wsV (clS K.1) i (clS rc) (mY m') (cW m' :: tG)) := by
    intro w hw
    unfold wsV at hw
    rcases List.mem_append.mp hw with hw | hw
    · simp only [List.mem_cons, List.not_mem_nil, or_false] at hw
      rcases hw with rfl | rfl | rfl | rfl
      · exact gW w1
      · exact gW w2
      · exact gW w3
      · rw [hC] at y7
        exact gW y7
    · exact gIn hm w hw
  have hl := vs_len h1
  unfold isC at hr
  split at hr
  · rename_i a As he
    split at hr
    · rename_i k' n' r' hT
      have hg := of_decide_eq_true hr
      obtain ⟨rfl, rfl, hk9⟩ := hg
      rw [he] at hl
      refine gos_call k.1 (fun P p l e R s m args below meth c H locs cells slots ls C g2 g3 g1 hc hs => ⟨((st.take n).reverse.map (cV P)).toArray, ?_⟩)
      have hM := met_of hm hi k l P
      have hp := pcm_at (vs := (st.take n).reverse) C g2 g3
      rw [he] at hM hp ⊢
      have hw := ws_at (P := P) (h := h) hT
      rw [eC_o hk9] at hw
      exact va_runV (Ts := tG) (b := P.1 + a) (As := As.map (cV P)) ⟨C.1, C.2.1, C.2.2.1, C.2.2.2.1, C.2.2.2.2.1⟩ hM (cwV (ws' := tG) (mN m') C.2.2.2.2.1 hG rfl rfl rfl ⟨hC, y5.1, y5.2, y6⟩ ⟨Nat.le_trans hR.1 C.2.2.2.2.2.2.1, Nat.le_trans hR.2 C.2.2.2.2.2.2.2.1⟩) ⟨blind S P _ h, va_recv C.2.2.2.2.2.2.2.2.1.1 g2.2 (cl_at k' hk9) hw, hp⟩ rfl (by rw [List.length_map]; simp only [List.length_cons] at hl; omega) g1.2.1 (ref_split rfl he) (room_ok (by rw [List.length_drop]; omega)) hd ⟨hc, hs⟩
    · cases hr
  · rename_i j As he
    have hg := of_decide_eq_true hr
    obtain ⟨rfl, j1, j2⟩ := hg
    rw [he] at hl
    refine gos_call k.1 (fun P p l e R s m args below meth c H locs cells slots ls C g2 g3 g1 hc hs => ⟨((st.take n).reverse.map (cV P)).toArray, ?_⟩)
    have hM := met_of hm hi k l P
    have hp := pcm_at (vs := (st.take n).reverse) C g2 g3
    rw [he] at hM hp ⊢
    obtain ⟨ad, h0, -, -, -, -, -, h6⟩ := C.2.2.2.2.2.2.2.2.1.2.2.2
    have hb : cV P (vO j) = .ref (ad j) := by show va_rf (P.2.2.2 j) = _; rw [h0 j (by omega)]; rfl
    have hv := vk_recv (i := j - 3) h6 (by omega) g3
    have e3 : 3 + (j - 3) = j := by omega
    simp only [e3] at hv
    have hp2 : ∀ U : State, U.heap = H → s.WarmedH U.vm → PcM S P (vO j :: As) h (Value.ref (ad j) :: As.map (cV P)).toArray U := by
      rw [← hb]
      exact hp
    have hq := va_runV (p := p) (e := e) (R := R) (meth := meth) (below := below) (locs := locs) (cells := cells) (slots := slots) (Ts := tG) (b := ad j) (As := As.map (cV P)) (rest := (st.drop n).map (cV P)) (g := F0 m pc ls (st.map (cV P))) ⟨C.1, C.2.1, C.2.2.1, C.2.2.2.1, C.2.2.2.2.1⟩ hM (cwV (ws' := tG) (mN m') C.2.2.2.2.1 hG rfl rfl rfl ⟨hC, y5.1, y5.2, y6⟩ ⟨Nat.le_trans hR.1 C.2.2.2.2.2.2.1, Nat.le_trans hR.2 C.2.2.2.2.2.2.2.1⟩) ⟨blind S P _ h, hv, hp2⟩ rfl (by rw [List.length_map]; simp only [List.length_cons] at hl; omega) g1.2.1 (ref_split hb he) (room_ok (by rw [List.length_drop]; omega)) hd ⟨hc, hs⟩
    exact hq
  · cases hr
end Calls
