/-! OWN KIT: worlds whose cells stay where they are; a call's frame in one row -/
/-- the places 'is' of the world get the cells of w1, one by one -/
def pz_put : List Nat → va_W → va_W → va_W
  | [], _, ws => ws
  | _ :: _, [], ws => ws
  | i :: is, c :: w1, ws => pz_put is w1 (ws.set i c)
theorem pz_putP {D : va_G} {cl : List vw_C} {H1 : Heap} : ∀ (is : List Nat) (w1 ws : va_W), is.length = w1.length → va_P D cl w1 H1 → (∀ (k : Nat) (q : Nat × va_E), ws[k]? = some q → k ∉ is → va_at D cl q H1) → va_P D cl (pz_put is w1 ws) H1
  | [], _, ws, _, _, h => fun k q hk => h k q hk List.not_mem_nil
  | _ :: _, [], _, hn, _, _ => absurd hn (by simp)
  | i :: is, c :: w1, ws, hn, h1, h => by
    refine pz_putP is w1 (ws.set i c) (Nat.succ.inj hn) (fun k q hk => h1 (k + 1) q (by simpa using hk)) ?_
    intro k q hk hnk
    rw [List.getElem?_set] at hk
    by_cases e : i = k
    · rw [if_pos e] at hk
      by_cases e2 : i < ws.length
      · rw [if_pos e2] at hk
        cases hk
        exact h1 0 c rfl
      · rw [if_neg e2] at hk
        cases hk
    · rw [if_neg e] at hk
      refine h k q hk ?_
      intro hm
      rcases List.mem_cons.mp hm with q1 | q1
      · exact e q1.symm
      · exact hnk q1
theorem pz_fst {ws : va_W} {i : Nat} {c : Nat × va_E} (h : (ws[i]?).map Prod.fst = some c.1) (j : Nat) : ((ws.set i c)[j]?).map Prod.fst = (ws[j]?).map Prod.fst := by
  rw [List.getElem?_set]
  by_cases e : i = j
  · subst e
    rw [if_pos rfl]
    by_cases e2 : i < ws.length
    · rw [if_pos e2, h]
      rfl
    · rw [List.getElem?_eq_none (Nat.le_of_not_lt e2)] at h
      cases h
  · rw [if_neg e]
theorem pz_putD {A : Nat → Prop} : ∀ (is : List Nat) (w1 ws : va_W), va_D A ws → is.map (fun i => (ws[i]?).map Prod.fst) = w1.map (fun c => some c.1) → va_D A (pz_put is w1 ws)
  | [], _, ws, hD, _ => hD
  | _ :: _, [], ws, hD, _ => hD
  | i :: is, c :: w1, ws, hD, h => by
    simp only [List.map_cons, List.cons.injEq] at h
    obtain ⟨h0, h1⟩ := h
    refine pz_putD is w1 (ws.set i c) ?_ ?_
    · cases hq : ws[i]? with
      | none => rw [hq] at h0; cases h0
      | some q =>
        rw [hq] at h0
        have e : q = (c.1, q.2) := by
          have := Option.some.inj h0
          rw [← this]
        exact hD.set (a := c.1) (e0 := q.2) (e := c.2) (by rw [hq]; exact congrArg some e)
    · rw [← h1]
      exact List.map_congr_left (fun j _ => pz_fst h0 j)
theorem pz_frame {A0 : Nat → Prop} {D : va_G} {cl : List vw_C} {ws wc w1 : va_W} {H H1 : Heap} (hP : va_P D cl ws H) (hD : va_D A0 ws) (is : List Nat) (hC : is.map (fun i => ws[i]?) = wc.map some) (hw : wc.map Prod.fst = w1.map Prod.fst)
    (hk : ∀ q : Nat, q < H.size → ¬ va_A wc H.size q → H1[q]? = H[q]?) (hP1 : va_P D cl w1 H1) : va_P D cl (pz_put is w1 ws) H1 ∧ va_D A0 (pz_put is w1 ws) := by
  have hl : is.length = w1.length := by
    have h1 := congrArg List.length hC
    have h2 := congrArg List.length hw
    simp only [List.length_map] at h1 h2
    omega
  refine ⟨pz_putP is w1 ws hl hP1 ?_, pz_putD is w1 ws hD ?_⟩
  · intro k q hq hni
    refine (hP k q hq).kept (hk q.1 (hP k q hq).lt ?_)
    intro hA
    rcases hA with ⟨j, e, hj⟩ | hge
    · have h1 : (is.map (fun i => ws[i]?))[j]? = (wc.map some)[j]? := by rw [hC]
      rw [List.getElem?_map, List.getElem?_map, hj] at h1
      cases hi : is[j]? with
      | none => rw [hi] at h1; cases h1
      | some i =>
        rw [hi] at h1
        have h2 : ws[i]? = some (q.1, e) := Option.some.inj h1
        have h3 : k = i := hD.1 k i q (q.1, e) hq h2 rfl
        exact hni (h3 ▸ List.mem_of_getElem? hi)
    · exact absurd (hP k q hq).lt (Nat.not_lt.mpr hge)
  · have h1 : is.map (fun i => (ws[i]?).map Prod.fst) = (is.map (fun i => ws[i]?)).map (fun o => o.map Prod.fst) := by rw [List.map_map]; rfl
    rw [h1, hC, List.map_map]
    have h2 := congrArg (List.map some) hw
    rw [List.map_map, List.map_map] at h2
    exact h2
theorem pz_Psub {D : va_G} {cl : List vw_C} {ws wc : va_W} {H : Heap} (hP : va_P D cl ws H) (is : List Nat) (hC : is.map (fun i => ws[i]?) = wc.map some) : va_P D cl wc H := by
  refine hP.sub is ?_
  have h1 : is.filterMap (fun i => ws[i]?) = (is.map (fun i => ws[i]?)).filterMap id := by rw [List.filterMap_map]; rfl
  rw [h1, hC, List.filterMap_map]
  exact List.filterMap_some

/-- what the tables say of members that another class of the nest uses -/
def nwF : List (String × Nat × String × String × String × String) := [("MapLumps", 69, "MapLumps$Row", "size", "I", "MapLumps"), ("MapLumps$Reader", 121, "MapLumps$Row", "size", "I", "MapLumps"), ("MapLumps", 16, "MapLumps$Reader", "source", "LMapLumps$Row;", "MapLumps"), ("MapLumps", 118, "MapLumps$Reader", "fault", "I", "MapLumps"), ("MapLumps", 121, "MapLumps$Reader", "faultPlace", "I", "MapLumps"), ("MapLumps", 124, "MapLumps$Reader", "faultWall", "I", "MapLumps"), ("MapLumps", 63, "MapLumps$RoomMap", "row", "LMapLumps$Row;", "MapLumps"), ("MapLumps", 59, "MapLumps$RoomMap", "present", "Z", "MapLumps"), ("MapLumps", 80, "MapLumps$RoomMap", "vertices", "I", "MapLumps"), ("MapLumps", 87, "MapLumps$RoomMap", "textures", "I", "MapLumps"), ("MapLumps", 100, "MapLumps$RoomMap", "sectors", "I", "MapLumps"), ("MapLumps", 106, "MapLumps$RoomMap", "walls", "I", "MapLumps"), ("MapLumps", 103, "MapLumps$RoomMap", "sectorsAt", "I", "MapLumps"), ("MapLumps", 109, "MapLumps$RoomMap", "wallsAt", "I", "MapLumps"), ("MapLumps", 112, "MapLumps$RoomMap", "startAt", "I", "MapLumps")]
def nwM : List (String × Nat × MethodName × String) := [("MapLumps$Reader", 11, ⟨"MapLumps$Row", "<init>", "()V"⟩, "MapLumps"), ("MapLumps$Reader", 38, ⟨"MapLumps$Span", "<init>", "()V"⟩, "MapLumps"), ("MapLumps", 25, ⟨"MapLumps$Row", "<init>", "()V"⟩, "MapLumps"), ("MapLumps", 31, ⟨"MapLumps$RoomMap", "<init>", "()V"⟩, "MapLumps"), ("MapLumps$RoomMap", 11, ⟨"MapLumps$Row", "<init>", "()V"⟩, "MapLumps")]
def pzN (U : State) : Prop := (∀ q ∈ nwF, va_Nw (.fieldLinkNest q.1 q.2.1 q.2.2.1 q.2.2.2.1 q.2.2.2.2.1 q.2.2.2.2.2) U) ∧ (∀ q ∈ nwM, va_Nw (.methodLinkNest q.1 q.2.1 q.2.2.1 q.2.2.2) U) ∧ va_AO "MapLumps$Span" U
theorem pzN.warm {s U : State} (hW : s.WarmedH U.vm) (h : pzN s) : pzN U := ⟨fun q hq => va_Nw.warmF hW (h.1 q hq), fun q hq => va_Nw.warmM hW (h.2.1 q hq), va_AO.moved hW.alike h.2.2⟩
theorem pzN.same {u U : State} (hv : u.vm = U.vm) (h : pzN u) : pzN U := ⟨fun q hq => va_Nw.same rfl hv (h.1 q hq), fun q hq => va_Nw.same rfl hv (h.2.1 q hq), va_AO.moved (hv ▸ Vm.Alike.refl u.vm) h.2.2⟩
/-- a method's words: its code, and what stays true -/
abbrev wg (y : MethodName) (cc : ByteArray) (maxL : Nat) (ret : Option FieldType) : List Cond := Cond.code y cc maxL ret :: gw
def pzM (y : MethodName) (cc : ByteArray) (maxL : Nat) (ret : Option FieldType) (n : Nat) : Prop := Cond.instanceMethod y ∈ gw ∧ Cond.selects y.cls y y ∈ gw ∧ Cond.initialized y.cls ∈ gw ∧ Cond.code y cc maxL ret ∈ gw ∧ y.cls ≠ "java/lang/invoke/MethodHandle" ∧ y.cls ≠ "java/lang/invoke/VarHandle" ∧ (parseMethodDescriptor y.desc).map (fun d => d.parameters.length) = some n
def pzS (y : MethodName) (cc : ByteArray) (maxL : Nat) (ret : Option FieldType) (n : Nat) : Prop := Cond.static y ∈ gw ∧ Cond.initialized y.cls ∈ gw ∧ Cond.code y cc maxL ret ∈ gw ∧ y.cls ≠ "java/lang/invoke/MethodHandle" ∧ y.cls ≠ "java/lang/invoke/VarHandle" ∧ (parseMethodDescriptor y.desc).map (fun d => d.parameters.length) = some n
theorem wg_good {y : MethodName} {cc : ByteArray} {maxL : Nat} {ret : Option FieldType} (h : Cond.code y cc maxL ret ∈ gw) : GoodIn gw (wg y cc maxL ret) := fun w hw => (List.mem_cons.mp hw).elim (fun q => q ▸ gw_good _ h) (fun q => gw_good _ q)
/-- the room of a method with d calls open below it at most -/
abbrev rmd (d : Nat) : Room := { frames := d, cells := 0, slots := 0, locals := 40 * d }
theorem pz_cwV {R : Room} {s : State} {args : Array Value} {own : String} {index maxL n d : Nat} {y : MethodName} {bytes : ByteArray} {ret : Option FieldType} (hts : ∀ w ∈ gw, w.before args s = true) (hy : pzM y bytes maxL ret n) (m1 : Cond.methodLink own index y ∈ gw) (hR : d + 1 ≤ R.frames ∧ 8 + (maxL + 11) + 40 * d ≤ R.locals) : CallW R s args own y.cls index y bytes maxL ret (wg y bytes maxL ret) (rmd d) 0 0 n := by
  obtain ⟨h1, h2, h3, h4, h5, h6, h7⟩ := hy
  refine cwV n hts ?_ rfl rfl rfl ⟨rfl, h5, h6, h7⟩ hR
  intro w hw
  rcases List.mem_append.mp hw with q | q
  · simp only [List.mem_cons, List.not_mem_nil, or_false] at q
    rcases q with q | q | q | q <;> subst q
    · exact gw_good _ m1
    · exact gw_good _ h1
    · exact gw_good _ h2
    · exact gw_good _ h3
  · exact wg_good h4 w q
theorem pz_cwS {R : Room} {s : State} {args : Array Value} {own : String} {index maxL n d : Nat} {y : MethodName} {bytes : ByteArray} {ret : Option FieldType} (hts : ∀ w ∈ gw, w.before args s = true) (hy : pzS y bytes maxL ret n) (m1 : Cond.methodLink own index y ∈ gw) (hR : d + 1 ≤ R.frames ∧ 8 + (maxL + 11) + 40 * d ≤ R.locals) : CallB R s args own index y bytes maxL ret (wg y bytes maxL ret) (rmd d) 0 0 n ∧ (Cond.static y).before args s = true := by
  obtain ⟨h1, h3, h4, h5, h6, h7⟩ := hy
  refine va_cwS n hts ?_ rfl rfl rfl ⟨h5, h6, h7⟩ hR
  intro w hw
  rcases List.mem_append.mp hw with q | q
  · simp only [List.mem_cons, List.not_mem_nil, or_false] at q
    rcases q with q | q | q <;> subst q
    · exact gw_good _ m1
    · exact gw_good _ h1
    · exact gw_good _ h3
  · exact wg_good h4 w q
/-- a contract's start: these arguments, these cells, apart, the tables -/
def pzP (D : va_G) (cl : List vw_C) (tys : List (ClassId × FieldType)) (sz : Nat) (av : List Value) (wc : va_W) : Array Value → State → Prop := va_Pc av (fun U => U.heap.size = sz ∧ va_P D cl wc U.heap ∧ va_K D cl tys U ∧ va_D (fun _ => True) wc ∧ pzN U)
theorem pzP_blind {D : va_G} {cl : List vw_C} {tys : List (ClassId × FieldType)} {sz : Nat} {av : List Value} {wc : va_W} : FrameBlind (pzP D cl tys sz av wc) := fun a U g mk q => by
  obtain ⟨q0, q1, qP, qK, qD, qN⟩ := q
  exact ⟨q0, q1, qP, va_K.moved (u := U) (U := U.calling g mk a) (Vm.Alike.refl U.vm) qK, qD, pzN.same (u := U) (U := U.calling g mk a) rfl qN⟩
theorem pzP_at {D : va_G} {cl : List vw_C} {tys : List (ClassId × FieldType)} {av : List Value} {ws wc : va_W} {A : Nat → Prop} {s : State} {H : Heap} (hP : va_P D cl ws H) (hD : va_D A ws) (hK : va_K D cl tys s) (hN : pzN s) (is : List Nat) (hC : is.map (fun i => ws[i]?) = wc.map some) (hn : va_nd is = true) : ∀ U : State, U.heap = H → s.WarmedH U.vm → pzP D cl tys H.size av wc av.toArray U := fun U hU hW =>
  ⟨rfl, by rw [hU], by rw [hU]; exact pz_Psub hP is hC, va_K.moved hW.alike hK, (hD.sub is hn hC).weaken (fun _ _ _ _ => trivial), hN.warm hW⟩
/-- the ends: the answer is F, the cells are w1 (at the same places), nothing else has changed -/
def pzI (D : va_G) (cl : List vw_C) (sz : Nat) (wc : va_W) (F : Int32) (w1 : va_W) : Array Value → State → Outcome → State → Prop := va_Qi (fun (r : Int32) (_ : Unit) => r = F) (fun _ t => va_P D cl w1 t.heap) (va_A wc sz)
def pzL (D : va_G) (cl : List vw_C) (sz : Nat) (wc : va_W) (F : Int64) (w1 : va_W) : Array Value → State → Outcome → State → Prop := va_Ql (fun (r : Int64) (_ : Unit) => r = F) (fun _ t => va_P D cl w1 t.heap) (va_A wc sz)
def pzV (D : va_G) (cl : List vw_C) (sz : Nat) (wc : va_W) (w1 : va_W) : Array Value → State → Outcome → State → Prop := va_Qv (fun (_ : Unit) => True) (fun _ t => va_P D cl w1 t.heap) (va_A wc sz)
/-- the contracts: from the cells wc and the arguments av, at any heap -/
def mI (l : Launch) (y : MethodName) (cc : ByteArray) (maxL : Nat) (ret : Option FieldType) (d : Nat) (D : va_G) (cl : List vw_C) (tys : List (ClassId × FieldType)) (av : List Value) (wc : va_W) (F : Int32) (w1 : va_W) : Prop := ∀ sz : Nat, Met l y (wg y cc maxL ret) (rmd d) (pzP D cl tys sz av wc) (pzI D cl sz wc F w1) 0 0 (va_A wc sz)
def mL (l : Launch) (y : MethodName) (cc : ByteArray) (maxL : Nat) (ret : Option FieldType) (d : Nat) (D : va_G) (cl : List vw_C) (tys : List (ClassId × FieldType)) (av : List Value) (wc : va_W) (F : Int64) (w1 : va_W) : Prop := ∀ sz : Nat, Met l y (wg y cc maxL ret) (rmd d) (pzP D cl tys sz av wc) (pzL D cl sz wc F w1) 0 0 (va_A wc sz)
def mV (l : Launch) (y : MethodName) (cc : ByteArray) (maxL : Nat) (ret : Option FieldType) (d : Nat) (D : va_G) (cl : List vw_C) (tys : List (ClassId × FieldType)) (av : List Value) (wc : va_W) (w1 : va_W) : Prop := ∀ sz : Nat, Met l y (wg y cc maxL ret) (rmd d) (pzP D cl tys sz av wc) (pzV D cl sz wc w1) 0 0 (va_A wc sz)
section PZC
variable {p : Program} {l : Launch} {e : Env} {R : Room} {s : State} {m : MethodId} {args a : Array Value} {below : List Frame} {meth : Method} {c : Code} {H : Heap} {locs : List Loc} {cells slots pc : Nat} {Q : State → Prop} {ls : Array Slot} {st0 rest : List Value} {D : va_G} {cl : List vw_C} {ws wc w1 : va_W} {A : Nat → Prop}
theorem pz_i {F : Int32} (hr : va_Run p l e R s m args below meth c H locs cells slots 0 0 (F0 m pc ls st0) rest (pzI D cl H.size wc F w1 a) (va_A wc H.size)) (hP : va_P D cl ws H) (hD : va_D A ws) (hS : va_S A s.heap H locs) (hA : ∀ q : Nat, s.heap.size ≤ q → A q) (is : List Nat) (hC : is.map (fun i => ws[i]?) = wc.map some) (as : List Nat) (hwa : wc.map Prod.fst = as) (hwb : w1.map Prod.fst = as)
    (kk : ∀ (H1 : Heap) (locs1 : List Loc), va_P D cl (pz_put is w1 ws) H1 → va_D A (pz_put is w1 ws) → va_S A s.heap H1 locs1 → W p l e R s m args below meth c H1 locs1 cells slots Q (F0 m (pc + 3) ls (.int F :: rest))) : W p l e R s m args below meth c H locs cells slots Q (F0 m pc ls st0) := by
  have hFc := va_free (wc := wc) hD hS hA is hC
  refine va_calli hr hS (fun q _ h => hFc q h) hFc (fun r u t H1 locs1 ht hvm hv hB hz1 hk1 hS1 => ?_)
  have hv : r = F := hv
  subst hv
  rw [ht] at hB
  obtain ⟨hP', hD'⟩ := pz_frame hP hD is hC (hwa.trans hwb.symm) hk1 hB
  exact kk H1 locs1 hP' hD' hS1
theorem pz_l {F : Int64} (hr : va_Run p l e R s m args below meth c H locs cells slots 0 0 (F0 m pc ls st0) rest (pzL D cl H.size wc F w1 a) (va_A wc H.size)) (hP : va_P D cl ws H) (hD : va_D A ws) (hS : va_S A s.heap H locs) (hA : ∀ q : Nat, s.heap.size ≤ q → A q) (is : List Nat) (hC : is.map (fun i => ws[i]?) = wc.map some) (as : List Nat) (hwa : wc.map Prod.fst = as) (hwb : w1.map Prod.fst = as)
    (kk : ∀ (H1 : Heap) (locs1 : List Loc), va_P D cl (pz_put is w1 ws) H1 → va_D A (pz_put is w1 ws) → va_S A s.heap H1 locs1 → W p l e R s m args below meth c H1 locs1 cells slots Q (F0 m (pc + 3) ls (.long F :: rest))) : W p l e R s m args below meth c H locs cells slots Q (F0 m pc ls st0) := by
  have hFc := va_free (wc := wc) hD hS hA is hC
  refine va_calll hr hS (fun q _ h => hFc q h) hFc (fun r u t H1 locs1 ht hvm hv hB hz1 hk1 hS1 => ?_)
  have hv : r = F := hv
  subst hv
  rw [ht] at hB
  obtain ⟨hP', hD'⟩ := pz_frame hP hD is hC (hwa.trans hwb.symm) hk1 hB
  exact kk H1 locs1 hP' hD' hS1
theorem pz_v (hr : va_Run p l e R s m args below meth c H locs cells slots 0 0 (F0 m pc ls st0) rest (pzV D cl H.size wc w1 a) (va_A wc H.size)) (hP : va_P D cl ws H) (hD : va_D A ws) (hS : va_S A s.heap H locs) (hA : ∀ q : Nat, s.heap.size ≤ q → A q) (is : List Nat) (hC : is.map (fun i => ws[i]?) = wc.map some) (as : List Nat) (hwa : wc.map Prod.fst = as) (hwb : w1.map Prod.fst = as)
    (kk : ∀ (H1 : Heap) (locs1 : List Loc), va_P D cl (pz_put is w1 ws) H1 → va_D A (pz_put is w1 ws) → va_S A s.heap H1 locs1 → W p l e R s m args below meth c H1 locs1 cells slots Q (F0 m (pc + 3) ls rest)) : W p l e R s m args below meth c H locs cells slots Q (F0 m pc ls st0) := by
  have hFc := va_free (wc := wc) hD hS hA is hC
  refine va_callv hr hS (fun q _ h => hFc q h) hFc (fun u t H1 locs1 ht hvm hv hB hz1 hk1 hS1 => ?_)
  rw [ht] at hB
  obtain ⟨hP', hD'⟩ := pz_frame hP hD is hC (hwa.trans hwb.symm) hk1 hB
  exact kk H1 locs1 hP' hD' hS1
end PZC
section PZR
variable {p : Program} {l : Launch} {e : Env} {R : Room} {s : State} {m : MethodId} {args : Array Value} {below : List Frame} {meth : Method} {c : Code} {H : Heap} {locs : List Loc} {cells slots pc nL index maxL n d : Nat} {ls : Array Slot} {st0 rest As : List Value} {D : va_G} {cl : List vw_C} {tys : List (ClassId × FieldType)} {ws wc : va_W} {A : Nat → Prop} {cc bytes : ByteArray} {y : MethodName} {ret : Option FieldType} {own : String} {b : Nat} {Qc : Array Value → State → Outcome → State → Prop}
theorem pz_rV (X : CallFix p m c cc nL s args gw own) (hN : pzN s) (hM : Met l y (wg y bytes maxL ret) (rmd d) (pzP D cl tys H.size (.ref b :: As) wc) Qc 0 0 (va_A wc H.size)) (hy : pzM y bytes maxL ret n) (m1 : Cond.methodLink own index y ∈ gw) (hR : d + 1 ≤ R.frames ∧ 8 + (maxL + 11) + 40 * d ≤ R.locals) (hK : va_K D cl tys s) (hP : va_P D cl ws H) (hD : va_D A ws) (is : List Nat) (hC : is.map (fun i => ws[i]?) = wc.map some) (hn : va_nd is = true) (q0 : Nat) {ci : Nat} {qc : vw_C} {fs : List Value} (hc : cl[ci]? = some qc) (hq : qc.1 = y.cls) (he : ws[q0]? = some (b, .inr (ci, fs))) (hl : As.length = n) (hz : ls.size = nL) (hst : st0 = As.reverse ++ .ref b :: rest) (hW : (rest.map fun v => v.category).sum ≤ 8) (hdg : decode cc pc = .ok (.invokevirtual index, 3)) (hf : cells ≤ R.cells ∧ slots ≤ R.slots) :
    va_Run p l e R s m args below meth c H locs cells slots 0 0 (F0 m pc ls st0) rest (Qc (Value.ref b :: As).toArray) (va_A wc H.size) :=
  va_runV X hM (pz_cwV X.2.2.2.2 hy m1 hR) ⟨pzP_blind, hq ▸ va_recv hK hP hc he, pzP_at hP hD hK hN is hC hn⟩ rfl hl hz hst (lv_room hW) hdg hf
theorem pz_rS (X : CallFix p m c cc nL s args gw own) (hN : pzN s) (hM : Met l y (wg y bytes maxL ret) (rmd d) (pzP D cl tys H.size As wc) Qc 0 0 (va_A wc H.size)) (hy : pzS y bytes maxL ret n) (m1 : Cond.methodLink own index y ∈ gw) (hR : d + 1 ≤ R.frames ∧ 8 + (maxL + 11) + 40 * d ≤ R.locals) (hK : va_K D cl tys s) (hP : va_P D cl ws H) (hD : va_D A ws) (is : List Nat) (hC : is.map (fun i => ws[i]?) = wc.map some) (hn : va_nd is = true) (hl : As.length = n) (hz : ls.size = nL) (hst : st0 = As.reverse ++ rest) (hW : (rest.map fun v => v.category).sum ≤ 8) (hdg : decode cc pc = .ok (.invokestatic index, 3)) (hf : cells ≤ R.cells ∧ slots ≤ R.slots) :
    va_Run p l e R s m args below meth c H locs cells slots 0 0 (F0 m pc ls st0) rest (Qc As.toArray) (va_A wc H.size) :=
  va_runS X hM (pz_cwS X.2.2.2.2 hy m1 hR) ⟨pzP_blind, pzP_at hP hD hK hN is hC hn⟩ rfl hl hz hst (lv_room hW) hdg hf
end PZR
/-- a call that leaves its cells as they are leaves the world as it is -/
theorem pz_put_same : ∀ (is : List Nat) (wc ws : va_W), is.map (fun i => ws[i]?) = wc.map some → pz_put is wc ws = ws
  | [], _, _, _ => rfl
  | _ :: _, [], _, _ => rfl
  | i :: is, c :: wc, ws, h => by
    simp only [List.map_cons, List.cons.injEq] at h
    have e : ws.set i c = ws := by
      refine List.ext_getElem? (fun j => ?_)
      rw [List.getElem?_set]
      by_cases q : i = j
      · subst q
        rw [if_pos rfl, h.1]
        have hlt : i < ws.length := (List.getElem?_eq_some_iff.mp h.1).1
        rw [if_pos hlt]
      · rw [if_neg q]
    show pz_put is wc (ws.set i c) = ws
    rw [e]
    exact pz_put_same is wc ws h.2
theorem pz_i0 {p : Program} {l : Launch} {e : Env} {R : Room} {s : State} {m : MethodId} {args a : Array Value} {below : List Frame} {meth : Method} {c : Code} {H : Heap} {locs : List Loc} {cells slots pc : Nat} {Q : State → Prop} {ls : Array Slot} {st0 rest : List Value} {D : va_G} {cl : List vw_C} {ws wc : va_W} {A : Nat → Prop} {F : Int32} (hr : va_Run p l e R s m args below meth c H locs cells slots 0 0 (F0 m pc ls st0) rest (pzI D cl H.size wc F wc a) (va_A wc H.size)) (hP : va_P D cl ws H) (hD : va_D A ws) (hS : va_S A s.heap H locs) (hA : ∀ q : Nat, s.heap.size ≤ q → A q) (is : List Nat) (hC : is.map (fun i => ws[i]?) = wc.map some)
    (kk : ∀ (H1 : Heap) (locs1 : List Loc), va_P D cl ws H1 → va_S A s.heap H1 locs1 → W p l e R s m args below meth c H1 locs1 cells slots Q (F0 m (pc + 3) ls (.int F :: rest))) : W p l e R s m args below meth c H locs cells slots Q (F0 m pc ls st0) := by
  refine pz_i hr hP hD hS hA is hC _ rfl rfl (fun H1 locs1 hP1 hD1 hS1 => ?_)
  rw [pz_put_same is wc ws hC] at hP1
  exact kk H1 locs1 hP1 hS1
theorem pz_l0 {p : Program} {l : Launch} {e : Env} {R : Room} {s : State} {m : MethodId} {args a : Array Value} {below : List Frame} {meth : Method} {c : Code} {H : Heap} {locs : List Loc} {cells slots pc : Nat} {Q : State → Prop} {ls : Array Slot} {st0 rest : List Value} {D : va_G} {cl : List vw_C} {ws wc : va_W} {A : Nat → Prop} {F : Int64} (hr : va_Run p l e R s m args below meth c H locs cells slots 0 0 (F0 m pc ls st0) rest (pzL D cl H.size wc F wc a) (va_A wc H.size)) (hP : va_P D cl ws H) (hD : va_D A ws) (hS : va_S A s.heap H locs) (hA : ∀ q : Nat, s.heap.size ≤ q → A q) (is : List Nat) (hC : is.map (fun i => ws[i]?) = wc.map some)
    (kk : ∀ (H1 : Heap) (locs1 : List Loc), va_P D cl ws H1 → va_S A s.heap H1 locs1 → W p l e R s m args below meth c H1 locs1 cells slots Q (F0 m (pc + 3) ls (.long F :: rest))) : W p l e R s m args below meth c H locs cells slots Q (F0 m pc ls st0) := by
  refine pz_l hr hP hD hS hA is hC _ rfl rfl (fun H1 locs1 hP1 hD1 hS1 => ?_)
  rw [pz_put_same is wc ws hC] at hP1
  exact kk H1 locs1 hP1 hS1
theorem pz_openI {l : Launch} {y : MethodName} {d : Nat} {cc : ByteArray} {maxL : Nat} {D : va_G} {cl : List vw_C} {tys : List (ClassId × FieldType)} {av : List Value} {wc w1 : va_W} {F : Int32} (hy : plainName y.cls = true) (hn : (lg_sl av).length ≤ maxL)
    (body : ∀ (p : Program) (e : Env) (s : State) (m : MethodId) (below : List Frame) (meth : Method) (c : Code) (A : Nat → Prop) (ls : Array Slot) (Q : State → Prop), CallFix p m c cc maxL s av.toArray gw y.cls → pzN s → va_K D cl tys s → va_P D cl wc s.heap → va_D A wc → va_S A s.heap s.heap [] → (∀ q : Nat, s.heap.size ≤ q → A q) → lv_has ls maxL (lv_args 0 av) →
      (∀ (H : Heap) (locs : List Loc) (pc : Nat) (ls : Array Slot) (v : Int32) (ws : va_W), decode cc pc = .ok (.ireturn, 1) → va_P D cl ws H → va_S A s.heap H locs → v = F → ws = w1 → W p l e (rmd d) s m av.toArray below meth c H locs 0 0 Q (F0 m pc ls [.int v])) →
      W p l e (rmd d) s m av.toArray below meth c s.heap [] 0 0 Q (F0 m 0 ls [])) : mI l y cc maxL (some .int) d D cl tys av wc F w1 := by
  intro sz
  refine Met.ofW (cc := cc) (maxL := maxL) (ret := some .int) hy rfl ?_
  intro p e s m args below meth c s₁ B hml hv
  obtain ⟨rfl, hsz, hP, hK, hD0, hN⟩ := hv
  subst hsz
  have hD := hD0.self (sz := s.heap.size)
  have hl := lv_entry av (n := maxL) hn
  rw [lg_entry_eq]
  refine body p e s m below meth c (va_A wc s.heap.size) _ _ ⟨B.exec, B.bytes, hml, findClass_of_methodNamed B.named, fun w h => atoms_spec (ws := wg y cc maxL (some .int)) B.pre w (List.mem_cons_of_mem _ h)⟩ hN hK hP hD va_S.rf (fun q h => Or.inr h) hl ?_
  intro H locs pc ls v ws hd hP hS ev ew
  subst ev; subst ew
  exact W.iret (v := v) B.exec B.bytes B.returns (fun t ht hW => ⟨⟨v, (), rfl, rfl, (by show va_P D cl ws t.heap; rw [ht]; exact hP)⟩, hS.F ht⟩) hS.2.2 hd B.notSynchronized
theorem pz_openZ {l : Launch} {y : MethodName} {d : Nat} {cc : ByteArray} {maxL : Nat} {D : va_G} {cl : List vw_C} {tys : List (ClassId × FieldType)} {av : List Value} {wc w1 : va_W} {F : Int32} (hy : plainName y.cls = true) (hn : (lg_sl av).length ≤ maxL)
    (body : ∀ (p : Program) (e : Env) (s : State) (m : MethodId) (below : List Frame) (meth : Method) (c : Code) (A : Nat → Prop) (ls : Array Slot) (Q : State → Prop), CallFix p m c cc maxL s av.toArray gw y.cls → pzN s → va_K D cl tys s → va_P D cl wc s.heap → va_D A wc → va_S A s.heap s.heap [] → (∀ q : Nat, s.heap.size ≤ q → A q) → lv_has ls maxL (lv_args 0 av) →
      (∀ (H : Heap) (locs : List Loc) (pc : Nat) (ls : Array Slot) (v : Int32) (ws : va_W), decode cc pc = .ok (.ireturn, 1) → va_P D cl ws H → va_S A s.heap H locs → v = F → ws = w1 → narrow .boolean (.int v) = .int v → W p l e (rmd d) s m av.toArray below meth c H locs 0 0 Q (F0 m pc ls [.int v])) →
      W p l e (rmd d) s m av.toArray below meth c s.heap [] 0 0 Q (F0 m 0 ls [])) : mI l y cc maxL (some .boolean) d D cl tys av wc F w1 := by
  intro sz
  refine Met.ofW (cc := cc) (maxL := maxL) (ret := some .boolean) hy rfl ?_
  intro p e s m args below meth c s₁ B hml hv
  obtain ⟨rfl, hsz, hP, hK, hD0, hN⟩ := hv
  subst hsz
  have hD := hD0.self (sz := s.heap.size)
  have hl := lv_entry av (n := maxL) hn
  rw [lg_entry_eq]
  refine body p e s m below meth c (va_A wc s.heap.size) _ _ ⟨B.exec, B.bytes, hml, findClass_of_methodNamed B.named, fun w h => atoms_spec (ws := wg y cc maxL (some .boolean)) B.pre w (List.mem_cons_of_mem _ h)⟩ hN hK hP hD va_S.rf (fun q h => Or.inr h) hl ?_
  intro H locs pc ls v ws hd hP hS ev ew hnz
  subst ev; subst ew
  exact W.zret (v := v) B.exec B.bytes B.returns hnz (fun t ht hW => ⟨⟨v, (), rfl, rfl, (by show va_P D cl ws t.heap; rw [ht]; exact hP)⟩, hS.F ht⟩) hS.2.2 hd B.notSynchronized
theorem pz_openL {l : Launch} {y : MethodName} {d : Nat} {cc : ByteArray} {maxL : Nat} {D : va_G} {cl : List vw_C} {tys : List (ClassId × FieldType)} {av : List Value} {wc w1 : va_W} {F : Int64} (hy : plainName y.cls = true) (hn : (lg_sl av).length ≤ maxL)
    (body : ∀ (p : Program) (e : Env) (s : State) (m : MethodId) (below : List Frame) (meth : Method) (c : Code) (A : Nat → Prop) (ls : Array Slot) (Q : State → Prop), CallFix p m c cc maxL s av.toArray gw y.cls → pzN s → va_K D cl tys s → va_P D cl wc s.heap → va_D A wc → va_S A s.heap s.heap [] → (∀ q : Nat, s.heap.size ≤ q → A q) → lv_has ls maxL (lv_args 0 av) →
      (∀ (H : Heap) (locs : List Loc) (pc : Nat) (ls : Array Slot) (v : Int64) (ws : va_W), decode cc pc = .ok (.lreturn, 1) → va_P D cl ws H → va_S A s.heap H locs → v = F → ws = w1 → W p l e (rmd d) s m av.toArray below meth c H locs 0 0 Q (F0 m pc ls [.long v])) →
      W p l e (rmd d) s m av.toArray below meth c s.heap [] 0 0 Q (F0 m 0 ls [])) : mL l y cc maxL (some .long) d D cl tys av wc F w1 := by
  intro sz
  refine Met.ofW (cc := cc) (maxL := maxL) (ret := some .long) hy rfl ?_
  intro p e s m args below meth c s₁ B hml hv
  obtain ⟨rfl, hsz, hP, hK, hD0, hN⟩ := hv
  subst hsz
  have hD := hD0.self (sz := s.heap.size)
  have hl := lv_entry av (n := maxL) hn
  rw [lg_entry_eq]
  refine body p e s m below meth c (va_A wc s.heap.size) _ _ ⟨B.exec, B.bytes, hml, findClass_of_methodNamed B.named, fun w h => atoms_spec (ws := wg y cc maxL (some .long)) B.pre w (List.mem_cons_of_mem _ h)⟩ hN hK hP hD va_S.rf (fun q h => Or.inr h) hl ?_
  intro H locs pc ls v ws hd hP hS ev ew
  subst ev; subst ew
  exact W.lret (v := v) B.exec B.bytes B.returns (fun t ht hW => ⟨⟨v, (), rfl, rfl, (by show va_P D cl ws t.heap; rw [ht]; exact hP)⟩, hS.F ht⟩) hS.2.2 hd B.notSynchronized
theorem pz_openV {l : Launch} {y : MethodName} {d : Nat} {cc : ByteArray} {maxL : Nat} {D : va_G} {cl : List vw_C} {tys : List (ClassId × FieldType)} {av : List Value} {wc w1 : va_W} (hy : plainName y.cls = true) (hn : (lg_sl av).length ≤ maxL)
    (body : ∀ (p : Program) (e : Env) (s : State) (m : MethodId) (below : List Frame) (meth : Method) (c : Code) (A : Nat → Prop) (ls : Array Slot) (Q : State → Prop), CallFix p m c cc maxL s av.toArray gw y.cls → pzN s → va_K D cl tys s → va_P D cl wc s.heap → va_D A wc → va_S A s.heap s.heap [] → (∀ q : Nat, s.heap.size ≤ q → A q) → lv_has ls maxL (lv_args 0 av) →
      (∀ (H : Heap) (locs : List Loc) (pc : Nat) (ls : Array Slot) (ws : va_W), decode cc pc = .ok (.return_, 1) → va_P D cl ws H → va_S A s.heap H locs → ws = w1 → W p l e (rmd d) s m av.toArray below meth c H locs 0 0 Q (F0 m pc ls [])) →
      W p l e (rmd d) s m av.toArray below meth c s.heap [] 0 0 Q (F0 m 0 ls [])) : mV l y cc maxL none d D cl tys av wc w1 := by
  intro sz
  refine Met.ofW (cc := cc) (maxL := maxL) (ret := none) hy rfl ?_
  intro p e s m args below meth c s₁ B hml hv
  obtain ⟨rfl, hsz, hP, hK, hD0, hN⟩ := hv
  subst hsz
  have hD := hD0.self (sz := s.heap.size)
  have hl := lv_entry av (n := maxL) hn
  rw [lg_entry_eq]
  refine body p e s m below meth c (va_A wc s.heap.size) _ _ ⟨B.exec, B.bytes, hml, findClass_of_methodNamed B.named, fun w h => atoms_spec (ws := wg y cc maxL none) B.pre w (List.mem_cons_of_mem _ h)⟩ hN hK hP hD va_S.rf (fun q h => Or.inr h) hl ?_
  intro H locs pc ls ws hd hP hS ew
  subst ew
  exact W.vret B.exec B.bytes B.returns (fun t ht hW => ⟨⟨(), rfl, trivial, (by show va_P D cl ws t.heap; rw [ht]; exact hP)⟩, hS.F ht⟩) hS.2.2 hd B.notSynchronized

theorem nf_32 {A : Array Value} {s : State} (h : pzN s) : (Cond.fieldLinkNest "MapLumps" 69 "MapLumps$Row" "size" "I" "MapLumps").before A s = true := va_Nw.use rfl (h.1 _ (List.mem_of_getElem? (i := 0) rfl))
theorem nf_33 {A : Array Value} {s : State} (h : pzN s) : (Cond.fieldLinkNest "MapLumps$Reader" 121 "MapLumps$Row" "size" "I" "MapLumps").before A s = true := va_Nw.use rfl (h.1 _ (List.mem_of_getElem? (i := 1) rfl))
theorem nf_74 {A : Array Value} {s : State} (h : pzN s) : (Cond.fieldLinkNest "MapLumps" 16 "MapLumps$Reader" "source" "LMapLumps$Row;" "MapLumps").before A s = true := va_Nw.use rfl (h.1 _ (List.mem_of_getElem? (i := 2) rfl))
theorem nf_85 {A : Array Value} {s : State} (h : pzN s) : (Cond.fieldLinkNest "MapLumps" 118 "MapLumps$Reader" "fault" "I" "MapLumps").before A s = true := va_Nw.use rfl (h.1 _ (List.mem_of_getElem? (i := 3) rfl))
theorem nf_87 {A : Array Value} {s : State} (h : pzN s) : (Cond.fieldLinkNest "MapLumps" 121 "MapLumps$Reader" "faultPlace" "I" "MapLumps").before A s = true := va_Nw.use rfl (h.1 _ (List.mem_of_getElem? (i := 4) rfl))
theorem nf_89 {A : Array Value} {s : State} (h : pzN s) : (Cond.fieldLinkNest "MapLumps" 124 "MapLumps$Reader" "faultWall" "I" "MapLumps").before A s = true := va_Nw.use rfl (h.1 _ (List.mem_of_getElem? (i := 5) rfl))
theorem nf_128 {A : Array Value} {s : State} (h : pzN s) : (Cond.fieldLinkNest "MapLumps" 63 "MapLumps$RoomMap" "row" "LMapLumps$Row;" "MapLumps").before A s = true := va_Nw.use rfl (h.1 _ (List.mem_of_getElem? (i := 6) rfl))
theorem nf_131 {A : Array Value} {s : State} (h : pzN s) : (Cond.fieldLinkNest "MapLumps" 59 "MapLumps$RoomMap" "present" "Z" "MapLumps").before A s = true := va_Nw.use rfl (h.1 _ (List.mem_of_getElem? (i := 7) rfl))
theorem nf_133 {A : Array Value} {s : State} (h : pzN s) : (Cond.fieldLinkNest "MapLumps" 80 "MapLumps$RoomMap" "vertices" "I" "MapLumps").before A s = true := va_Nw.use rfl (h.1 _ (List.mem_of_getElem? (i := 8) rfl))
theorem nf_135 {A : Array Value} {s : State} (h : pzN s) : (Cond.fieldLinkNest "MapLumps" 87 "MapLumps$RoomMap" "textures" "I" "MapLumps").before A s = true := va_Nw.use rfl (h.1 _ (List.mem_of_getElem? (i := 9) rfl))
theorem nf_137 {A : Array Value} {s : State} (h : pzN s) : (Cond.fieldLinkNest "MapLumps" 100 "MapLumps$RoomMap" "sectors" "I" "MapLumps").before A s = true := va_Nw.use rfl (h.1 _ (List.mem_of_getElem? (i := 10) rfl))
theorem nf_139 {A : Array Value} {s : State} (h : pzN s) : (Cond.fieldLinkNest "MapLumps" 106 "MapLumps$RoomMap" "walls" "I" "MapLumps").before A s = true := va_Nw.use rfl (h.1 _ (List.mem_of_getElem? (i := 11) rfl))
theorem nf_141 {A : Array Value} {s : State} (h : pzN s) : (Cond.fieldLinkNest "MapLumps" 103 "MapLumps$RoomMap" "sectorsAt" "I" "MapLumps").before A s = true := va_Nw.use rfl (h.1 _ (List.mem_of_getElem? (i := 12) rfl))
theorem nf_143 {A : Array Value} {s : State} (h : pzN s) : (Cond.fieldLinkNest "MapLumps" 109 "MapLumps$RoomMap" "wallsAt" "I" "MapLumps").before A s = true := va_Nw.use rfl (h.1 _ (List.mem_of_getElem? (i := 13) rfl))
theorem nf_145 {A : Array Value} {s : State} (h : pzN s) : (Cond.fieldLinkNest "MapLumps" 112 "MapLumps$RoomMap" "startAt" "I" "MapLumps").before A s = true := va_Nw.use rfl (h.1 _ (List.mem_of_getElem? (i := 14) rfl))
theorem nk_26 {s : State} (h : pzN s) : va_Nw (.methodLinkNest "MapLumps$Reader" 11 ⟨"MapLumps$Row", "<init>", "()V"⟩ "MapLumps") s := h.2.1 _ (List.mem_of_getElem? (i := 0) rfl)
theorem nk_43 {s : State} (h : pzN s) : va_Nw (.methodLinkNest "MapLumps$Reader" 38 ⟨"MapLumps$Span", "<init>", "()V"⟩ "MapLumps") s := h.2.1 _ (List.mem_of_getElem? (i := 1) rfl)
theorem nk_118 {s : State} (h : pzN s) : va_Nw (.methodLinkNest "MapLumps" 25 ⟨"MapLumps$Row", "<init>", "()V"⟩ "MapLumps") s := h.2.1 _ (List.mem_of_getElem? (i := 2) rfl)
theorem nk_121 {s : State} (h : pzN s) : va_Nw (.methodLinkNest "MapLumps" 31 ⟨"MapLumps$RoomMap", "<init>", "()V"⟩ "MapLumps") s := h.2.1 _ (List.mem_of_getElem? (i := 3) rfl)
theorem nk_126 {s : State} (h : pzN s) : va_Nw (.methodLinkNest "MapLumps$RoomMap" 11 ⟨"MapLumps$Row", "<init>", "()V"⟩ "MapLumps") s := h.2.1 _ (List.mem_of_getElem? (i := 4) rfl)
theorem i_Lu : ∀ w ∈ u_ws R_Lu T_Lu 4, w ∈ gw := List.forall_mem_cons.mpr ⟨w_171, List.forall_mem_cons.mpr ⟨w_173, List.forall_mem_cons.mpr ⟨w_175, List.forall_mem_cons.mpr ⟨w_177, fun _ h => absurd h List.not_mem_nil⟩⟩⟩⟩
theorem i_Rd : ∀ w ∈ u_ws R_Rd T_Rd 13, w ∈ gw := List.forall_mem_cons.mpr ⟨w_90, List.forall_mem_cons.mpr ⟨w_92, List.forall_mem_cons.mpr ⟨w_94, List.forall_mem_cons.mpr ⟨w_96, List.forall_mem_cons.mpr ⟨w_98, List.forall_mem_cons.mpr ⟨w_100, List.forall_mem_cons.mpr ⟨w_102, List.forall_mem_cons.mpr ⟨w_104, List.forall_mem_cons.mpr ⟨w_106, List.forall_mem_cons.mpr ⟨w_108, List.forall_mem_cons.mpr ⟨w_110, List.forall_mem_cons.mpr ⟨w_112, List.forall_mem_cons.mpr ⟨w_114, fun _ h => absurd h List.not_mem_nil⟩⟩⟩⟩⟩⟩⟩⟩⟩⟩⟩⟩⟩
theorem i_Mp : ∀ w ∈ u_ws R_Mp T_Mp 10, w ∈ gw := List.forall_mem_cons.mpr ⟨w_146, List.forall_mem_cons.mpr ⟨w_148, List.forall_mem_cons.mpr ⟨w_150, List.forall_mem_cons.mpr ⟨w_152, List.forall_mem_cons.mpr ⟨w_154, List.forall_mem_cons.mpr ⟨w_156, List.forall_mem_cons.mpr ⟨w_158, List.forall_mem_cons.mpr ⟨w_160, List.forall_mem_cons.mpr ⟨w_162, List.forall_mem_cons.mpr ⟨w_164, fun _ h => absurd h List.not_mem_nil⟩⟩⟩⟩⟩⟩⟩⟩⟩⟩
theorem i_Rw : ∀ w ∈ u_ws R_Rw T_Rw 2, w ∈ gw := List.forall_mem_cons.mpr ⟨w_34, List.forall_mem_cons.mpr ⟨w_36, fun _ h => absurd h List.not_mem_nil⟩⟩
theorem i_Sp : ∀ w ∈ u_ws R_Sp T_Sp 8, w ∈ gw := List.forall_mem_cons.mpr ⟨w_55, List.forall_mem_cons.mpr ⟨w_57, List.forall_mem_cons.mpr ⟨w_59, List.forall_mem_cons.mpr ⟨w_61, List.forall_mem_cons.mpr ⟨w_63, List.forall_mem_cons.mpr ⟨w_65, List.forall_mem_cons.mpr ⟨w_67, List.forall_mem_cons.mpr ⟨w_69, fun _ h => absurd h List.not_mem_nil⟩⟩⟩⟩⟩⟩⟩⟩
theorem i_Mo : ∀ w ∈ u_ws R_Mo T_Mo 13, w ∈ gw := List.forall_mem_cons.mpr ⟨w_431, List.forall_mem_cons.mpr ⟨w_433, List.forall_mem_cons.mpr ⟨w_435, List.forall_mem_cons.mpr ⟨w_437, List.forall_mem_cons.mpr ⟨w_439, List.forall_mem_cons.mpr ⟨w_441, List.forall_mem_cons.mpr ⟨w_443, List.forall_mem_cons.mpr ⟨w_445, List.forall_mem_cons.mpr ⟨w_447, List.forall_mem_cons.mpr ⟨w_449, List.forall_mem_cons.mpr ⟨w_451, List.forall_mem_cons.mpr ⟨w_453, List.forall_mem_cons.mpr ⟨w_455, fun _ h => absurd h List.not_mem_nil⟩⟩⟩⟩⟩⟩⟩⟩⟩⟩⟩⟩⟩
