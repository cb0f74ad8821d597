/-! THE CLAIM OUT OF ONE WALK OF THE LAW'S BODY. Your part is whole_start (and what it stands on); all else here is the same for every law, but numbers. -/
def R_law : String := "LastAwakeLaw"
def lw_P (b : Addr) (xs : List Int32) (args : Array Value) (s : State) : Prop := args = #[.ref b] ∧ s.IntsAt b xs ∧ xs.length ≤ 384 ∧ (Jvm.Cond.and given_1 narrow_1).before args s = true
def lw_Q (_ : Array Value) (s : State) (o : Outcome) (t : State) : Prop := o = .returned (some (.int 1)) ∧ Framed s o t [] 600000 7302250
def lw_Z (below : List Frame) (a : Array Value) (s : State) : State → Prop := fun t => ∃ o, t.status = .running ∧ Ended t below o ∧ lw_Q a s o t
/-- the law's own end, with 1 on the stack, nothing written that was there before, its room as the claim has it -/
theorem lw_ret {p : Program} {l : Launch} {e : Env} {s : State} {m : MethodId} {below : List Frame} {meth : Method} {c : Code} {b : Nat} (hx : p.tables.exec = Jvm.exec) (hb : c.code = code) (hr : meth.sig.returnType = ret) (hlocks : meth.locks = false) {pc : Nat} {H : Heap} {ls : Array Slot} (hdg : decode code pc = .ok (.ireturn, 1)) : W p l e room_1 s m #[Value.ref b] below meth c H [] 600000 7302250 (lw_Z below #[Value.ref b] s) (F0 m pc ls [.int 1]) := by
  intro T hT X
  obtain ⟨fs, hret, hrun, hended, hW, hframe⟩ := X.leave (v := some (.int 1)) (hlocks := hlocks) (fun h => by rw [hr] at h; cases h)
  have hmeth' : T.vm.method? m = some meth := X.method'
  refine ⟨T.setFrames fs, ?_, .returned (some (.int 1)), hrun, hended, rfl, ⟨_, rfl⟩, hW, hframe⟩
  jvm_step X.here [X.here.top, hx, hb, hdg, hmeth', hr, ret, narrow_b1]
  (try refine ⟨rfl, ?_⟩); (try refine ⟨rfl, ?_⟩)
  first | (intro acts; rw [hret _ acts rfl rfl rfl]) | rw [hret _ _ rfl rfl rfl]
  exact Steps.refl _
/-- what holds at the law's entry: the machine, the code, the tables' words (any of lw_tbl by 'hts w (by decide +kernel)'), the script of L ints xs at the cell b, what the Statement gives of the start (any of its parts by flat_of_before) -/
def lw_At (p : Program) (s : State) (m : MethodId) (meth : Method) (c : Code) (b L : Nat) (xs : Nat → Int32) : Prop :=
  p.tables.exec = Jvm.exec ∧ c.code = code ∧ meth.sig.returnType = ret ∧ c.maxLocals = 4 ∧ s.vm.findClass R_law = some m.cls ∧ (∀ w ∈ lw_tbl, w.before #[Value.ref b] s = true) ∧ va_X b L xs s s.heap ∧ b < s.heap.size ∧ meth.locks = false ∧ (Jvm.Cond.and given_1 narrow_1).before #[Value.ref b] s = true
/-! THE START: from the claim's premises to the small machine -/
def tmS (i : Nat) : Term := .string "LastAwake$Script" ((sIdx.getD i (0, "")).1)
theorem n_inst : ∀ k, k < 9 → Cond.instantiable (clS k) (clN k) ∈ lw_tbl := by decide +kernel
set_option maxRecDepth 20000 in
theorem w_ao5 : Cond.arrayOver (.object RX5) ∈ lw_tbl := by decide +kernel
set_option maxRecDepth 20000 in
theorem w_ao6 : Cond.arrayOver (.object RX6) ∈ lw_tbl := by decide +kernel
set_option maxRecDepth 20000 in
theorem w_aoi : Cond.arrayOver (.array .int) ∈ lw_tbl := by decide +kernel
theorem arr_prim {s : State} {args : Array Value} {ty : FieldType} (h : (Cond.arrayClass ty).before args s = true) : ∃ cA, ArrOfT s cA ty ∧ s.vm.findClass ("[" ++ ty.toString) = some cA := by
  obtain ⟨c, k, comp, h1, h2, h3⟩ := Cond.arrayClass_spec h
  exact ⟨c, fun N z => ⟨(fun k h => by cases h), k, h2, comp, h3⟩, h1⟩
theorem arr_obj {s : State} {args : Array Value} {n : String} (h : (Cond.arrayOver (.object n)).before args s = true) : ∃ cA, ArrOfT s cA (.object n) ∧ va_RA s cA (.object n) := by
  obtain ⟨comp, c, k, h1, -, h2, h3, h4⟩ := Cond.arrayOver_spec h
  exact ⟨c, fun N z => ⟨(fun k h => by cases h), k, h2, comp, h3⟩, k, comp, h2, h3, h1, h4⟩
theorem arr_arr {s : State} {args : Array Value} {t : FieldType} (h : (Cond.arrayOver (.array t)).before args s = true) : ∃ cA, ArrOfT s cA (.array t) ∧ va_RA s cA (.array t) := by
  obtain ⟨comp, c, k, h1, -, h2, h3, h4⟩ := arrayOverA_spec h
  exact ⟨c, fun N z => ⟨(fun k h => by cases h), k, h2, comp, h3⟩, h4⟩
def given : List Cond := flatC (Jvm.Cond.and given_1 narrow_1)
theorem g_mt : Cond.arrayOf (.static "LastAwake" "MOST_OF_TRAIT" "[I") .int ∈ given := by decide +kernel
theorem g_mtl : Cond.eq (.length (.static "LastAwake" "MOST_OF_TRAIT" "[I")) (.int 6) ∈ given := by decide +kernel
theorem g_mte : ∀ j, j < 6 → Cond.eq (.elem (.static "LastAwake" "MOST_OF_TRAIT" "[I") (.int (Int32.ofNat j))) (.int (Int32.ofInt ((roL [] 1).getD j 0))) ∈ given := by decide +kernel
theorem g_no : Cond.arrayOf (.static "LastAwake$Script" "NUMBERS_OF" "[I") .int ∈ given := by decide +kernel
theorem g_nol : Cond.eq (.length (.static "LastAwake$Script" "NUMBERS_OF" "[I")) (.int 8) ∈ given := by decide +kernel
theorem g_noe : ∀ j, j < 8 → Cond.eq (.elem (.static "LastAwake$Script" "NUMBERS_OF" "[I") (.int (Int32.ofNat j))) (.int (Int32.ofInt ((roL [] 2).getD j 0))) ∈ given := by decide +kernel
theorem g_cs : Cond.eq (.static "java/lang/String" "COMPACT_STRINGS" "Z") (.int 1) ∈ given := by decide +kernel
theorem g_sf : Cond.isRef (.static "jdk/internal/util/Preconditions" "SIOOBE_FORMATTER" "Ljava/util/function/BiFunction;") ∈ given := by decide +kernel
theorem g_sx : ∀ i, i < 8 → Cond.exactly (tmS i) "java/lang/String" ∈ given := by decide +kernel
theorem g_sc : ∀ i, i < 8 → Cond.eq (.field (tmS i) "java/lang/String" "coder" "B") (.int 0) ∈ given := by decide +kernel
theorem g_sv : ∀ i, i < 8 → Cond.arrayOf (.field (tmS i) "java/lang/String" "value" "[B") .byte ∈ given := by decide +kernel
theorem g_sl : ∀ i, i < 8 → Cond.eq (.length (.field (tmS i) "java/lang/String" "value" "[B")) (.int (Int32.ofNat (sLen.getD i 0))) ∈ given := by decide +kernel
theorem g_se : ∀ i, i < 8 → ∀ j, j < sLen.getD i 0 → Cond.eq (.elem (.field (tmS i) "java/lang/String" "value" "[B") (.int (Int32.ofNat j))) (.int ((sByt.getD i []).getD j 0)) ∈ given := by decide +kernel
theorem g_sn : ∀ i, i < 8 → ∀ j, j < 8 → i ≠ j → Cond.not (Cond.eq (tmS i) (tmS j)) ∈ given ∨ Cond.not (Cond.eq (tmS j) (tmS i)) ∈ given := by decide +kernel
theorem sL_31 : ∀ i, i < 8 → sLen.getD i 0 < 2 ^ 31 := by decide +kernel
theorem w_ls1 : Cond.laysStatic "LastAwake" "MOST_OF_TRAIT" "[I" ∈ lw_tbl := by decide +kernel
theorem w_ls2 : Cond.laysStatic "LastAwake$Script" "NUMBERS_OF" "[I" ∈ lw_tbl := by decide +kernel
theorem w_ls3 : Cond.laysStatic "java/lang/String" "COMPACT_STRINGS" "Z" ∈ lw_tbl := by decide +kernel
theorem w_ls4 : Cond.laysStatic "jdk/internal/util/Preconditions" "SIOOBE_FORMATTER" "Ljava/util/function/BiFunction;" ∈ lw_tbl := by decide +kernel
theorem w_in1 : Cond.initialized "LastAwake" ∈ lw_tbl := by decide +kernel
theorem w_in2 : Cond.initialized "LastAwake$Script" ∈ lw_tbl := by decide +kernel
theorem w_in3 : Cond.initialized "java/lang/String" ∈ lw_tbl := by decide +kernel
theorem w_in4 : Cond.initialized "jdk/internal/util/Preconditions" ∈ lw_tbl := by decide +kernel
theorem w_sr : ∀ i, i < 8 → Cond.stringRef "LastAwake$Script" (sIdx.getD i (0, "")).1 (sIdx.getD i (0, "")).2 ∈ lw_tbl := by decide +kernel
theorem W_Q {p : Program} {l : Launch} {e : Env} {R : Room} {s : State} {m : MethodId} {args : Array Value} {below : List Frame} {meth : Method} {c : Code} {H : Heap} {locs : List Loc} {cells slots : Nat} {Q Q' : State → Prop} {g : JFrame} (h : ∀ t, Q t → Q' t) (k : W p l e R s m args below meth c H locs cells slots Q g) : W p l e R s m args below meth c H locs cells slots Q' g := by
  intro T hT X
  obtain ⟨t, a, b⟩ := k T hT X
  exact ⟨t, a, h t b⟩
/-- the worlds of the start -/
theorem start_w {p : Program} {s : State} {m : MethodId} {meth : Method} {c : Code} {b L : Nat} {xs : Nat → Int32} (hL : L ≤ 384) (C0 : lw_At p s m meth c b L xs) : ∃ P : Par, P.1 = s.heap.size ∧ cV P (vO 0) = .ref b ∧ Wd ((List.range L).map (fun j => (xs j).toInt)) P s := by
  obtain ⟨hx, hb, hr, hml, hown, hts, hX, hbl, hlocks, hgv⟩ := id C0
  have hG := flat_of_before _ hgv
  have hcl : ∀ k, k < 9 → ∃ (cC : ClassId) (iS : Nat → Nat), u_Kn s (clS k) (clT k) (clN k) cC iS := fun k hk => u_known hts (fun w hw => (cl_in k hk w hw).1) (hts _ (n_inst k hk))
  have hcl2 : ∀ k, ∃ (d : ClassId × (Nat → Nat)), k < 9 → u_Kn s (clS k) (clT k) (clN k) d.1 d.2 := by
    intro k
    by_cases hk : k < 9
    · obtain ⟨c1, c2, c3⟩ := hcl k hk
      exact ⟨(c1, c2), fun _ => c3⟩
    · exact ⟨(0, fun _ => 0), fun h => absurd h hk⟩
  obtain ⟨d, hd⟩ := Classical.axiomOfChoice hcl2
  obtain ⟨a9, ha9, hb9⟩ := arr_prim (hts _ (tG_good _ aW_i).1)
  obtain ⟨a10, ha10, hb10⟩ := arr_prim (hts _ (tG_good _ aW_b).1)
  obtain ⟨a11, ha11, hb11⟩ := arr_prim (hts _ (tG_good _ aW_z).1)
  obtain ⟨a12, ha12, hb12⟩ := arr_obj (hts _ w_ao5)
  obtain ⟨a13, ha13, hb13⟩ := arr_obj (hts _ w_ao6)
  obtain ⟨a14, ha14, hb14⟩ := arr_arr (hts _ w_aoi)
  have hA : ∀ a : Nat, a < s.heap.size → ¬ (fun q : Nat => s.heap.size ≤ q) a := fun a h => Nat.not_le.mpr h
  obtain ⟨t1, e1, T1⟩ := va_Tof (A := fun q : Nat => s.heap.size ≤ q) (tm := .static "LastAwake" "MOST_OF_TRAIT" "[I") (ty := .int) (N := 6) (f := fun i => .int (Int32.ofInt ((roL [] 1).getD i 0))) (by decide) (hG _ g_mt) (va_eqt (hG _ g_mtl)) (fun j hj => va_eqt (hG _ (g_mte j hj))) hA
  obtain ⟨t2, e2, T2⟩ := va_Tof (A := fun q : Nat => s.heap.size ≤ q) (tm := .static "LastAwake$Script" "NUMBERS_OF" "[I") (ty := .int) (N := 8) (f := fun i => .int (Int32.ofInt ((roL [] 2).getD i 0))) (by decide) (hG _ g_no) (va_eqt (hG _ g_nol)) (fun j hj => va_eqt (hG _ (g_noe j hj))) hA
  obtain ⟨adK, adV, S1, S2⟩ := vk_Sof (A := fun q : Nat => s.heap.size ≤ q) (N := 8) (tm := tmS) (len := sLen) (byt := sByt) sL_31 (fun i hi => hG _ (g_sx i hi)) (fun i hi => hG _ (g_sc i hi)) (fun i hi => hG _ (g_sv i hi)) (fun i hi => hG _ (g_sl i hi)) (fun i hi j hj => hG _ (g_se i hi j hj)) (fun i j hi hj hn => (g_sn i hi j hj hn).imp (hG _) (hG _)) hA
  have Z1 := va_Zref (A := fun q : Nat => s.heap.size ≤ q) (hts _ w_ls1) (hts _ w_in1) e1 hA
  have Z2 := va_Zref (A := fun q : Nat => s.heap.size ≤ q) (hts _ w_ls2) (hts _ w_in2) e2 hA
  have Z3 := va_Zof (A := fun q : Nat => s.heap.size ≤ q) (hts _ w_ls3) (hts _ w_in3) (va_eqi (hG _ g_cs)) hA
  have Z4 := va_Zqof (A := fun q : Nat => s.heap.size ≤ q) (hts _ w_ls4) (hts _ w_in4) (hG _ g_sf) hA
  have Z4' : ∃ o : Option Nat, va_Z "jdk/internal/util/Preconditions" "SIOOBE_FORMATTER" "Ljava/util/function/BiFunction;" (va_rf o) (fun q : Nat => s.heap.size ≤ q) s s.heap := by
    rcases Z4 with h | ⟨t, h⟩
    · exact ⟨none, h⟩
    · exact ⟨some t, h⟩
  obtain ⟨o, Z5⟩ := Z4'
  let ad : Nat → Nat := fun j => if j = 0 then b else if j = 1 then t1 else if j = 2 then t2 else if j < 11 then adK (j - 3) else adV (j - 11)
  let P : Par := (s.heap.size, (fun k => (d k).1, fun k => (d k).2), fun k => if k = 9 then a9 else if k = 10 then a10 else if k = 11 then a11 else if k = 12 then a12 else if k = 13 then a13 else a14, fun j => if j < 19 then some (ad j) else o)
  refine ⟨P, rfl, rfl, ⟨fun k q hq => ?_, fun k q hq => ?_⟩, fun w hw => ?_, fun i q hq => ?_, ad, fun j hj => ?_, Z1, Z2, fun j hj => ?_, Z3, ?_, ?_⟩
  · have hk : k < 9 := (List.getElem?_eq_some_iff.mp hq).1
    rw [cl_at k hk] at hq
    cases hq
    exact hd k hk
  · have hk : k < 6 := (List.getElem?_eq_some_iff.mp hq).1
    have h : k = 0 ∨ k = 1 ∨ k = 2 ∨ k = 3 ∨ k = 4 ∨ k = 5 := by omega
    rcases h with rfl | rfl | rfl | rfl | rfl | rfl <;> cases hq
    · exact ⟨ha9, hb9⟩
    · exact ⟨ha10, hb10⟩
    · exact ⟨ha11, hb11⟩
    · exact ⟨ha12, hb12⟩
    · exact ⟨ha13, hb13⟩
    · exact ⟨ha14, hb14⟩
  · obtain ⟨w1, w2⟩ := nW_in w hw
    have w3 := hts w w1
    cases w with
    | methodLinkNest _ _ _ _ => exact va_Nw.of rfl w3
    | fieldLinkNest _ _ _ _ _ _ => exact va_Nw.of rfl w3
    | arrayOver t => exact w3
    | _ => cases w2
  · have hi : i < 8 := (List.getElem?_eq_some_iff.mp hq).1
    have e9 : sIdx.getD i (0, "") = q := by rw [List.getD_eq_getElem?_getD, hq]; rfl
    have h1 := hts _ (w_sr i hi)
    have h2 := S2 i hi
    unfold tmS at h2
    rw [e9] at h1 h2
    refine ⟨adK i, ?_, vk_R.of h1 h2⟩
    show (if 3 + i < 19 then some (ad (3 + i)) else o) = _
    rw [if_pos (by omega)]
    show some (if 3 + i = 0 then b else if 3 + i = 1 then t1 else if 3 + i = 2 then t2 else if 3 + i < 11 then adK (3 + i - 3) else adV (3 + i - 11)) = _
    rw [if_neg (by omega), if_neg (by omega), if_neg (by omega), if_pos (by omega), Nat.add_sub_cancel_left]
  · show (if j < 19 then some (ad j) else o) = _
    rw [if_pos hj]
  · have h : j = 0 ∨ j = 1 ∨ j = 2 := by omega
    rcases h with rfl | rfl | rfl
    · obtain ⟨scr, x1, x2, x3, x4, x5⟩ := hX
      have el : ((List.range L).map (fun j => (xs j).toInt)).length = L := by simp
      refine ⟨scr, x1, x2, x3, ?_, ?_, fun k hk => ?_, Nat.not_le.mpr hbl⟩
      · show ((List.range L).map (fun j => (xs j).toInt)).length ≤ _
        rw [el, x4]
        exact Nat.le_refl _
      · show _ = Int32.ofNat ((List.range L).map (fun j => (xs j).toInt)).length
        rw [el, x4]
      · have hk : k < ((List.range L).map (fun j => (xs j).toInt)).length := hk
        rw [el] at hk
        rw [x5 k hk]
        show some (Value.int (xs k)) = some (Value.int (Int32.ofInt (((List.range L).map (fun j => (xs j).toInt)).getD k 0)))
        rw [List.getD_eq_getElem?_getD, List.getElem?_map, List.getElem?_range hk]
        show _ = some (Value.int (Int32.ofInt (xs k).toInt))
        rw [Int32.ofInt_toInt]
    · exact T1
    · exact T2
  · exact Z5
  · have f1 : (fun i => ad (3 + i)) = (fun i => if 3 + i < 11 then adK i else adV (3 + i - 11)) := by
      funext i
      show (if 3 + i = 0 then b else if 3 + i = 1 then t1 else if 3 + i = 2 then t2 else if 3 + i < 11 then adK (3 + i - 3) else adV (3 + i - 11)) = _
      rw [if_neg (by omega), if_neg (by omega), if_neg (by omega), Nat.add_sub_cancel_left]
    have f2 : (fun i => ad (11 + i)) = adV := by
      funext i
      show (if 11 + i = 0 then b else if 11 + i = 1 then t1 else if 11 + i = 2 then t2 else if 11 + i < 11 then adK (11 + i - 3) else adV (11 + i - 11)) = _
      rw [if_neg (by omega), if_neg (by omega), if_neg (by omega), if_neg (by omega), Nat.add_sub_cancel_left]
    rw [f1, f2]
    obtain ⟨q1, q2⟩ := S1
    refine ⟨fun i hi => ?_, fun i j hi hj he => ?_⟩
    · simp only [show 3 + i < 11 from by omega, if_true]
      exact q1 i hi
    · simp only [show 3 + i < 11 from by omega, show 3 + j < 11 from by omega, if_true] at he
      exact q2 i j hi hj he
/-- what is owed of the small machine: the law's run on every script -/
def LawRuns : Prop := ∀ S : List Int, S.length ≤ 384 → (∀ z ∈ S, n32 z = z) → ∃ (f : Nat) (h' : Hp), run S f 205 0 ([], [some (vO 0), none, none, none], [], fun _ _ => 0) = some (some (vI 1), h') ∧ h'.1.length ≤ 600000 ∧ sz h'.1 ≤ 7302250
theorem start_open (owed : LawRuns) {p : Program} {e : Env} {s : State} {m : MethodId} {below : List Frame} {meth : Method} {c : Code} (l : Launch) {b L : Nat} {xs : Nat → Int32} (hL : L ≤ 384) (C0 : lw_At p s m meth c b L xs) : W p l e room_1 s m #[Value.ref b] below meth c s.heap [] 0 0 (lw_Z below #[Value.ref b] s) (entryFrame m ([Value.ref b] : List Value).toArray 4) := by
  obtain ⟨hx, hb, hr, hml, hown, hts, hX, hbl, hlocks, hgv⟩ := id C0
  obtain ⟨P, hP1, hP2, hW⟩ := start_w hL C0
  obtain ⟨f, h', hrun, hc, hs⟩ := owed ((List.range L).map (fun j => (xs j).toInt)) (by simp; exact hL) (fun z hz => by
    obtain ⟨j, -, rfl⟩ := List.mem_map.mp hz
    rw [← i32_toInt, Int32.ofInt_toInt])
  have hok := run_ok okM_all f 205 0 _ _ (by decide) hrun
  have C : Cx ((List.range L).map (fun j => (xs j).toInt)) (mK 205) P p room_1 s m #[Value.ref b] meth c :=
    ⟨hx, hb, hml, hown, fun w hw => hts w (tG_good w hw).1, fun h => absurd h (by decide), by decide, by decide, hW, by rw [hP1]; exact Nat.le_refl _, hlocks⟩
  have hl : lR P 4 [some (vO 0), none, none, none] ((lg_sl ([vO 0].map (cV P)) ++ List.replicate (4 - (lg_sl ([vO 0].map (cV P))).length) Slot.unset).toArray) := ini_lR rfl
  have e9 : [vO 0].map (cV P) = [Value.ref b] := by show [cV P (vO 0)] = _; rw [hP2]
  rw [e9] at hl
  rw [lg_entry_eq]
  have w := hok.2 P p l e room_1 s m #[Value.ref b] below meth c 0 0 C hr ⟨by rw [hP1]; rfl, Nat.zero_le _⟩ (Nat.zero_le _) (by show h'.1.length - 0 ≤ 600000; omega) (by show sz h'.1 - 0 ≤ 7302250; omega) _ s.heap [] hl ⟨by rw [hP1]; rfl, fun k q hq => by cases hq⟩ va_S.rf
  refine W_Q (fun t ht => ?_) w
  obtain ⟨o, q1, q2, q3, Lc, ⟨q4, q5, q6⟩, q7⟩ := ht
  refine ⟨o, q1, q2, q3.1, q4, q5, q6.weaken (fun y hy hlt => ?_) (by omega) (by omega)⟩
  have := q7 y hy
  have : P.1 ≤ y.base := this
  rw [hP1] at this
  exact absurd hlt (Nat.not_lt.mpr this)
