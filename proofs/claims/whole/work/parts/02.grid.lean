/-! AN ARRAY OF ARRAYS: what multianewarray of two dimensions does, from the instruction's own text (nothing of JvmDerived/Shelf42) -/
theorem gr_old (Y : State) (c : Cell) {q : Nat} (h : q < Y.heap.size) : (Y.pushCell c).heap[q]? = Y.heap[q]? := State.heap_pushCell_of_lt _ _ h
theorem gr_top (Y : State) (c : Cell) : (Y.pushCell c).heap[Y.heap.size]? = some c := State.heap_pushCell_size _ _
theorem gr_oth (Y : State) (x : Cell) {q b : Nat} (h : q ≠ b) : (Y.setCell b x).heap[q]? = Y.heap[q]? := State.heap_setCell_other (Ne.symm h)
theorem gr_self {Y : State} {x c : Cell} {b : Nat} (h : Y.heap[b]? = some c) : (Y.setCell b x).heap[b]? = some x := State.heap_setCell_self h
section Grid1
variable {E : CtlPost} {e : Env} {d : Bool} {acts : List Action}
/-- a new array, where its class is known and it fits -/
theorem gr_newArray {Z : State} {g : JFrame} {cA comp : ClassId} {kA : Class} {ty : FieldType} {N : Nat} {x : Value}
    (hk : Z.vm.classes[cA]? = some kA) (hkind : kA.kind = .array comp ty) (hx : fits ty x = true) (hd : x.isDefault = true)
    (h1 : ¬ N > e.platform.arrayLengthLimit) (h2 : ¬ N * componentBytes ty > e.platform.maxHeapBytes)
    (h3 : Z.heap.size < e.platform.maxCells) (h4 : Z.slotsUsed + N ≤ e.platform.maxSlots) {Q : Addr → Pre}
    (hq : Q Z.heap.size d acts ((Z.pushCell (arrV cA N fun _ => x)).setTop g)) :
    wp (_root_.Jvm.newArray cA N x) Q E e d acts (Z.setTop g) := by
  have hfit : ∀ i v, (Array.replicate N x)[i]? = some v → Z.fitsSlot cA .none i v = true := by
    intro i v hv
    rw [Array.getElem?_replicate] at hv
    split at hv
    · cases hv
      simp [State.fitsSlot, State.slotType?, hk, hkind, hx]
    · cases hv
  have hact : allocActs (Array.replicate N x) Z.heap.size acts = acts := by
    unfold allocActs
    rw [if_pos]
    rw [Array.all_replicate]
    split <;> simp [hd]
  have h5 : ¬ N > e.platform.maxSlots := by omega
  rw [← arrV_new] at hq
  simp only [_root_.Jvm.newArray, _root_.Jvm.arrayFits, wp_bind', _root_.Jvm.W.ask, _root_.Jvm.W.ite, h1, if_false, _root_.Jvm.W.theClass, State.vm_setTop, hk, Option.some.injEq, exists_eq_left', hkind, h2, h5, wp_pure', _root_.Jvm.W.alloc]
  refine ⟨h3, by rw [Array.size_replicate]; exact h4, hfit, ?_⟩
  show Q Z.heap.size d (allocActs (Array.replicate N x) Z.heap.size acts) _
  rw [hact]
  exact hq
end Grid1
section Grid2
variable {p : Program} {l : Launch} {e : Env} {R : Room} {s : State} {m : MethodId} {args : Array Value} {below : List Frame} {meth : Method} {c : Code}
/-- the rows, one behind the other: r of n are still to come -/
theorem gr_loop {n k : Nat} {v : Vm} {cA cI cc : ClassId} {kA kI : Class} {t0 : FieldType} (hkI : v.classes[cI]? = some kI) (hI : kI.kind = .array cc .int) (hkA : v.classes[cA]? = some kA) (hA : kA.kind = .array cI t0) (ht : t0.isReference = true)
    (h1 : ¬ k > e.platform.arrayLengthLimit) (h2 : ¬ k * componentBytes .int > e.platform.maxHeapBytes) (H0 : Heap) (f : Nat → PUnit → Sem (ForInStep PUnit))
    (hf : ∀ (E : CtlPost) (i : Nat) (d' : Bool) (acts' : List Action) (Y : State) (Q' : ForInStep PUnit → Pre), Y.vm = v →
      wp (_root_.Jvm.newArray cI k (.int 0)) (fun x d1 a1 s1 => wp (_root_.Jvm.writeLoc H0.size i (.ref x)) (fun _ => Q' (.yield PUnit.unit)) E e d1 a1 s1) E e d' acts' Y → wp (f i PUnit.unit) Q' E e d' acts' Y) :
    ∀ (r i : Nat) (Y : State) (locs : List Loc) (cells slots : Nat), i + r = n → Stand p l e R s m args below meth c Y locs cells slots → Y.vm = v → Y.heap.size = H0.size + 1 + i →
      (∀ q, q < H0.size → Y.heap[q]? = H0[q]?) → Y.heap[H0.size]? = some (arrV cA n (fun j => if j < i then .ref (H0.size + 1 + j) else .null)) → (∀ j, j < i → Y.heap[H0.size + 1 + j]? = some (arrV cI k fun _ => .int 0)) →
      cells + r ≤ R.cells → slots + r * k ≤ R.slots →
      ∃ Z : State, Stand p l e R s m args below meth c Z (locs ++ (List.range' i r).map fun j => ⟨H0.size, j⟩) (cells + r) (slots + r * k) ∧ Z.heap.size = H0.size + 1 + n ∧
        (∀ q, q < H0.size → Z.heap[q]? = H0[q]?) ∧ Z.heap[H0.size]? = some (arrV cA n (fun j => if j < n then .ref (H0.size + 1 + j) else .null)) ∧ (∀ j, j < n → Z.heap[H0.size + 1 + j]? = some (arrV cI k fun _ => .int 0)) ∧
        ∀ (E : CtlPost) (g : JFrame) (d : Bool) (acts : List Action) (Q : PUnit → Pre), (∀ d' acts', Q PUnit.unit d' acts' (Z.setTop g)) → wp (forIn (List.range' i r) PUnit.unit f) Q E e d acts (Y.setTop g) := by
  intro r
  induction r with
  | zero =>
    intro i Y locs cells slots hi X hv hs hold ho hin hc hsl
    have e0 : i = n := by omega
    subst e0
    refine ⟨Y, by simpa using X, hs, hold, ho, hin, fun E g d acts Q hq => ?_⟩
    simp only [List.range'_zero, List.forIn_nil, wp_pure']
    exact hq d acts
  | succ r ih =>
    intro i Y locs cells slots hi X hv hs hold ho hin hc hsl
    have hsl' : slots + k + r * k ≤ R.slots := by rw [Nat.succ_mul] at hsl; omega
    have hi' : i < n := by omega
    obtain ⟨m1, m2⟩ := X.roomAbove (a := 1) (b := k) (by omega) (by have := Nat.le_add_left k (r * k); omega)
    have X1 := X.pushed (arrV cI k fun _ => .int 0)
    rw [arrV_size] at X1
    have ho1 : (Y.pushCell (arrV cI k fun _ => .int 0)).heap[H0.size]? = some (arrV cA n (fun j => if j < i then .ref (H0.size + 1 + j) else .null)) := by
      rw [gr_old _ _ (by omega)]
      exact ho
    have X2 := X1.stored ho1 i (.ref Y.heap.size)
    have eU : (arrV cA n (fun j => if j < i then .ref (H0.size + 1 + j) else .null)).setSlot i (.ref Y.heap.size) = arrV cA n (fun j => if j < i + 1 then .ref (H0.size + 1 + j) else .null) := by
      rw [arrV_store]
      congr 1
      funext j
      unfold updV
      by_cases c1 : j = i
      · rw [if_pos c1, if_pos (by omega), hs, c1]
      · rw [if_neg c1]
        show (if j < i then _ else _) = _
        by_cases c2 : j < i
        · rw [if_pos c2, if_pos (by omega)]
        · rw [if_neg c2, if_neg (by omega)]
    rw [eU] at X2
    have hY2 : ∀ q, q ≠ H0.size → ((Y.pushCell (arrV cI k fun _ => .int 0)).setCell H0.size (arrV cA n (fun j => if j < i + 1 then .ref (H0.size + 1 + j) else .null))).heap[q]? = (Y.pushCell (arrV cI k fun _ => .int 0)).heap[q]? := fun q hq => gr_oth _ _ hq
    obtain ⟨Z, z1, z2, z3, z4, z5, z6⟩ := ih (i + 1) _ _ _ _ (by omega) X2 hv (by
        rw [State.heap_setCell, Array.size_setIfInBounds, State.heap_pushCell, Array.size_push, hs]
        omega)
      (fun q hq => by rw [hY2 q (by omega), gr_old _ _ (by omega)]; exact hold q hq)
      (gr_self ho1)
      (fun j hj => by
        rw [hY2 _ (by omega)]
        by_cases c1 : j < i
        · rw [gr_old _ _ (by omega)]
          exact hin j c1
        · have e1 : H0.size + 1 + j = Y.heap.size := by omega
          rw [e1]
          exact gr_top _ _)
      (by omega) hsl'
    refine ⟨Z, ?_, z2, z3, z4, z5, fun E g d acts Q hq => ?_⟩
    · have e1 : cells + 1 + r = cells + (r + 1) := by omega
      have e2 : slots + k + r * k = slots + (r + 1) * k := by rw [Nat.succ_mul]; omega
      rw [e1, e2, List.append_assoc] at z1
      rw [List.range'_succ, List.map_cons]
      exact z1
    · rw [List.range'_succ, List.forIn_cons, wp_bind']
      refine hf E i d acts (Y.setTop g) _ hv ?_
      refine gr_newArray (by rw [hv]; exact hkI) hI rfl rfl h1 h2 (by omega) m2 ?_
      refine ⟨_, ho1, fun q => (by cases q), by rw [arrV_size]; exact hi', ?_, ?_⟩
      · show (Y.pushCell (arrV cI k fun _ => .int 0)).fitsSlot cA .none i (.ref Y.heap.size) = true
        have hk1 : (Y.pushCell (arrV cI k fun _ => .int 0)).vm.classes[cA]? = some kA := by rw [State.vm_pushCell, hv]; exact hkA
        have hx : fits t0 (.ref Y.heap.size) = true := by cases t0 <;> first | rfl | (simp [FieldType.isReference] at ht)
        simp [State.fitsSlot, State.slotType?, hkA, hA, hx, hv]
      · rw [eU]
        exact z6 E g _ _ Q hq
end Grid2

theorem gr_over {args : Array Value} {first s : State} {o : Option Outcome} {idx : List Nat} {t : FieldType} (h : (Cond.arrayOver (.array t)).holds args first o s idx = true) :
    ∃ cI cA kA, s.vm.findClass (FieldType.array t).toString = some cI ∧ s.vm.findClass ("[" ++ (FieldType.array t).toString) = some cA ∧ s.vm.classes[cA]? = some kA ∧ kA.kind = .array cI (.array t) := by
  simp only [Cond.holds, Cond.value, beq_iff_eq, Option.bind_eq_some_iff, Option.map_eq_some_iff] at h
  obtain ⟨cI, h1, cA, h2, kA, h3, h4⟩ := h
  obtain ⟨_, h5, -⟩ := Array.findIdx?_eq_some_iff_getElem.mp h2
  rw [(Array.getElem?_eq_some_iff.mp h3).2] at h5
  cases h6 : kA.kind with
  | array c0 t1 =>
    rw [h6] at h4 h5
    simp only [Bool.and_eq_true, decide_eq_true_eq, beq_iff_eq] at h4 h5
    exact ⟨cI, cA, kA, h1, h4.2, h3, by rw [h6, h5, h4.1]⟩
  | _ => rw [h6] at h4; cases h4
/-- one row: it is made, and written into its place -/
def gr_f (cI : ClassId) (y : Int32) (a : Addr) : Nat → PUnit → Sem (ForInStep PUnit) := fun i _ => do
  let x ← Op.multianewarray.make cI [y]
  _root_.Jvm.writeLoc a i (.ref x)
  Pure.pure (ForInStep.yield PUnit.unit)
theorem gr_make2 {E : CtlPost} {e : Env} {d : Bool} {acts : List Action} {S : State} {Q : Addr → Pre} {cA cI : ClassId} {kA : Class} {z y : Int32} {t : FieldType} (hz : ¬ z < 0) (hy : ¬ y < 0) (hk : S.vm.classes[cA]? = some kA) (hkind : kA.kind = .array cI t)
    (h : wp (_root_.Jvm.newArray cA z.toNatClampNeg .null) (fun a => wp (forIn (List.range' 0 z.toNatClampNeg) PUnit.unit (gr_f cI y a)) (fun _ => Q a) E e) E e d acts S) :
    wp (Op.multianewarray.make cA [z, y]) Q E e d acts S := by
  unfold Op.multianewarray.make
  have hfi : List.find? (fun x : Int32 => decide (x < 0)) [y] = none := by simp [hy]
  simp only [wp_bind', _root_.Jvm.W.ite, hz, if_false, wp_pure', _root_.Jvm.W.theClass, hk, Option.some.injEq, exists_eq_left', hkind, hfi, ite_self]
  simp only [Std.Legacy.Range.forIn_eq_forIn_range', Std.Legacy.Range.size, Nat.sub_zero, Nat.add_sub_cancel, Nat.div_one]
  have e9 : (fun a => wp (forIn (List.range' 0 z.toNatClampNeg) PUnit.unit (gr_f cI y a) >>= fun _ => Pure.pure a) Q E e) = fun a => wp (forIn (List.range' 0 z.toNatClampNeg) PUnit.unit (gr_f cI y a)) (fun _ => Q a) E e := by
    funext a d1 a1 s1
    rw [wp_bind']
    rfl
  rw [← e9] at h
  exact h
theorem gr_make1 {E : CtlPost} {e : Env} {d : Bool} {acts : List Action} {S : State} {Q : Addr → Pre} {cI cc : ClassId} {kI : Class} {y : Int32} {t : FieldType} (hy : ¬ y < 0) (hk : S.vm.classes[cI]? = some kI) (hkind : kI.kind = .array cc t)
    (h : wp (_root_.Jvm.newArray cI y.toNatClampNeg (defaultValue t)) Q E e d acts S) :
    wp (Op.multianewarray.make cI [y]) Q E e d acts S := by
  unfold Op.multianewarray.make
  simp only [wp_bind', _root_.Jvm.W.ite, hy, if_false, wp_pure', _root_.Jvm.W.theClass, hk, Option.some.injEq, exists_eq_left', hkind]
  exact h
/-- the instruction, where its class is resolved and the two lengths lie on the stack -/
theorem gr_sem {E : CtlPost} {e : Env} {d : Bool} {acts : List Action} {S : State} {Q : Unit → Pre} {g : JFrame} {cA : ClassId} {index : Nat} {z y : Int32} {rest : List Value} (hs : S.topJava?.isSome) (hr : S.vm.classReady g.method.cls index cA) (hst : g.stack = .int y :: .int z :: rest)
    (h : wp (Op.multianewarray.make cA [z, y]) (fun a d1 a1 s1 => wp (_root_.Jvm.pushRef a) Q E e d1 a1 s1) E e true acts (S.setTop { g with stack := rest })) :
    wp (Op.multianewarray.sem index 2) Q E e d acts (S.setTop g) := by
  unfold Op.multianewarray.sem
  simp only [wp_bind', _root_.Jvm.W.resolveClassAt_ready (State.method?_setTop g hs) hr, _root_.Jvm.popN, _root_.Jvm.W.pop, State.topJava?_setTop' _ hs, Option.some.injEq, exists_eq_left', hst, List.cons.injEq, exists_cons_eq, State.setTop_setTop, wp_pure', List.nil_append, List.cons_append, List.mapM_cons, List.mapM_nil, _root_.Jvm.W.mark]
  exact h

theorem gr_cold {E : CtlPost} {e : Env} {d : Bool} {acts : List Action} {S : State} {v : Vm} {Q : Unit → Pre} {g : JFrame} {cA : ClassId} {index : Nat} (hs : S.topJava?.isSome) (w1 : (_root_.Jvm.resolveClass g.method.cls index).Gives e.toSetting S.vm (.ok cA) v) (w3 : v.classReady g.method.cls index cA) (hsz : v.classes.size ≤ S.vm.classes.size)
    (h : wp (Op.multianewarray.sem index 2) Q E e d acts ((S.setVm v).setTop g)) : wp (Op.multianewarray.sem index 2) Q E e d acts (S.setTop g) := by
  unfold Op.multianewarray.sem at h ⊢
  rw [wp_bind'] at h ⊢
  exact (_root_.Jvm.W.resolveClassAt_transfer (s := S.setTop g) (State.method?_setTop g hs) w1 w3 hsz).mpr h
section Grid3
variable {p : Program} {l : Launch} {e : Env} {R : Room} {s : State} {m : MethodId} {args : Array Value} {below : List Frame} {meth : Method} {c : Code} {T : State} {locs : List Loc} {cells slots : Nat}
/-- the instruction in a walk: n rows of k zeroes, and the row of the rows -/
theorem gr_mna (X : Stand p l e R s m args below meth c T locs cells slots) (hexec : p.tables.exec = _root_.Jvm.exec) {own : String} {index : Nat} (hown : s.vm.findClass own = some m.cls)
    (hlink : (Cond.classLink own index "[[I").before args s = true) (hover : (Cond.arrayOver (.array .int)).before args s = true) (harr : (Cond.arrayClass .int).before args s = true)
    {g : JFrame} (hg : g.method = m) (hdg : decode c.code g.pc = .ok (.multianewarray index 2, 4)) {z y : Int32} {n k : Nat} {rest : List Value} (hst : g.stack = .int y :: .int z :: rest) (hz : ¬ z < 0) (hy : ¬ y < 0)
    (hn : z.toNatClampNeg = n) (hk : y.toNatClampNeg = k) (hb1 : n * 4 ≤ 536870912) (hb2 : k * 4 ≤ 536870912) (hcells : cells + 1 + n ≤ R.cells) (hslots : slots + n + n * k ≤ R.slots) :
    ∃ (cA cI : ClassId) (Z : State), s.vm.findClass "[[I" = some cA ∧ s.vm.findClass "[I" = some cI ∧ Stand p l e R s m args below meth c Z (locs ++ (List.range n).map fun j => ⟨T.heap.size, j⟩) (cells + 1 + n) (slots + n + n * k) ∧
      Z.heap.size = T.heap.size + 1 + n ∧ (∀ q, q < T.heap.size → Z.heap[q]? = T.heap[q]?) ∧ Z.heap[T.heap.size]? = some (arrV cA n (fun j => if j < n then .ref (T.heap.size + 1 + j) else .null)) ∧
      (∀ j, j < n → Z.heap[T.heap.size + 1 + j]? = some (arrV cI k fun _ => .int 0)) ∧
      ∀ target, Steps p.tables e below (Z.setTop { g with pc := g.pc + 4, stack := .ref T.heap.size :: rest }) target → Steps p.tables e below (T.setTop g) target := by
  subst hg
  have hpl : e.platform.magicAccessors = ({} : Platform).magicAccessors := by rw [X.admits.platform]
  obtain ⟨cI, cA, kA, hfI, hfA, hkA, hkindA⟩ := gr_over hover
  obtain ⟨cI', kI, cc, hfI', hkI, hkindI⟩ := Cond.arrayClass_spec harr
  obtain ⟨cA', hfA', hcl⟩ := Cond.classLink_spec hown hlink e.platform hpl
  have eA : cA' = cA := Option.some.inj (hfA'.symm.trans hfA)
  have eI : cI' = cI := Option.some.inj (hfI'.symm.trans hfI)
  subst eA eI
  obtain ⟨w1, w2, w3⟩ := State.classEntry (e := e) X.warmed hcl
  generalize T.vm.noted g.method.cls index (.cls cA') = v at w1 w2 w3
  have hal : s.vm.Alike v := w2.alike
  obtain ⟨kA1, hkA1, heA⟩ := hal.2.2 _ _ hkA
  obtain ⟨kI1, hkI1, heI⟩ := hal.2.2 _ _ hkI
  have hkindA1 : kA1.kind = .array cI' (.array .int) := by rw [heA]; exact hkindA
  have hkindI1 : kI1.kind = .array cc .int := by rw [heI]; exact hkindI
  have l1 : e.platform.arrayLengthLimit = _ := Launch.admits_arrayLengthLimit X.admits
  have l2 : e.platform.maxHeapBytes = _ := Launch.admits_maxHeapBytes X.admits
  have X1 := (X.noted w2).pushed (arrV cA' n fun _ => .null)
  rw [arrV_size] at X1
  have hsv : (T.setVm v).heap = T.heap := rfl
  obtain ⟨m1, m2⟩ := (X.noted w2).roomAbove (a := 1) (b := n) (by omega) (by omega)
  obtain ⟨Z, z1, z2, z3, z4, z5, z6⟩ := gr_loop (n := n) (k := k) hkI1 hkindI1 hkA1 hkindA1 rfl (by rw [l1]; omega) (by rw [l2]; show ¬ k * 4 > _; omega) T.heap (gr_f cI' y T.heap.size) (fun E i d' acts' Y Q' hv h => by
      unfold gr_f
      rw [wp_bind']
      refine gr_make1 hy (by rw [hv]; exact hkI1) hkindI1 ?_
      rw [hk]
      exact h) n 0 _ _ _ _ (Nat.zero_add n) X1 rfl (by rw [State.heap_pushCell, Array.size_push, hsv]) (fun q hq => by rw [gr_old _ _ (by rw [hsv]; exact hq), hsv]) (by
      have h9 := gr_top (T.setVm v) (arrV cA' n fun _ => .null)
      rw [hsv] at h9
      simp only [Nat.not_lt_zero, if_false]
      exact h9) (fun j hj => absurd hj (Nat.not_lt_zero j)) hcells hslots
  refine ⟨cA', cI', Z, hfA, hfI, by rw [List.range_eq_range']; exact z1, z2, z3, z4, z5, fun target hrest => ?_⟩
  refine Steps.instr X.here ?_
  rw [hdg]
  show wpRun (p.tables.exec (.multianewarray index 2)) _ _ e (T.setTop g)
  rw [hexec]
  show wp (Op.multianewarray.sem index 2) _ _ e false [] (T.setTop g)
  have hsz : v.classes.size ≤ T.vm.classes.size := Nat.le_of_eq (hal.2.1.trans X.warmed.alike.2.1.symm)
  refine gr_cold X.here.top w1 w3 hsz (gr_sem (X.noted w2).here.top w3 hst (gr_make2 hz hy hkA1 hkindA1 ?_))
  rw [hn]
  refine gr_newArray hkA1 hkindA1 rfl rfl (by rw [l1]; omega) (by rw [l2]; show ¬ n * 4 > _; omega) (by omega) m2 ?_
  refine z6 _ _ _ _ _ fun d' acts' => ?_
  refine ⟨_, State.topJava?_setTop' _ z1.here.top, fun acts2 => ?_⟩
  rw [State.setTop_setTop, afterInstr_ok]
  exact hrest
end Grid3
/-- that an array class has been made over a type stays so, where the tables have only been resolved further -/
theorem gr_keep {s : State} {v : Vm} (h : s.vm.Alike v) {a a' : Array Value} (t : FieldType) (hb : (Cond.arrayOver t).before a s = true) : (Cond.arrayOver t).before a' (s.setVm v) = true := by
  simp only [Cond.before, Cond.holds, Cond.value, beq_iff_eq, Option.bind_eq_some_iff, Option.map_eq_some_iff] at hb ⊢
  obtain ⟨cI, h1, cA, h2, kA, h3, h4⟩ := hb
  obtain ⟨kB, h5, h6⟩ := h.2.2 _ _ h3
  have h7 : kB.kind = kA.kind := by rw [h6]
  have h8 : ∀ x, (s.setVm v).vm.findClass x = s.vm.findClass x := fun x => h.findClass x _
  refine ⟨cI, ?_, cA, ?_, kB, h5, ?_⟩
  · simp only [h8]
    exact h1
  · show v.classes.findIdx? _ = some cA
    rw [h.findIdx?_eqK _ (fun _ => rfl)]
    exact h2
  · rw [h7]
    simp only [h8]
    exact h4
