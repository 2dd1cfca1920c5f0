/-! OWN KIT: constructors -/
abbrev rmC (d mc ms : Nat) : Room := { frames := d, cells := mc, slots := ms, locals := 40 * d }
def pzC {S : Type} (D : va_G) (cl : List vw_C) (sz : Nat) (wc : va_W) (w1 : S → va_W) : Array Value → State → Outcome → State → Prop := va_Qv (fun (_ : S) => True) (fun u t => va_P D cl (w1 u) t.heap ∧ va_D (va_A wc sz) (w1 u)) (va_A wc sz)
def mC {S : Type} (l : Launch) (y : MethodName) (cc : ByteArray) (maxL : Nat) (d mc ms : Nat) (D : va_G) (cl : List vw_C) (tys : List (ClassId × FieldType)) (av : List Value) (wc : va_W) (w1 : S → va_W) : Prop := ∀ sz : Nat, Met l y (wg y cc maxL none) (rmC d mc ms) (pzP D cl tys sz av wc) (pzC D cl sz wc w1) mc ms (va_A wc sz)
theorem pz_openC {S : Type} {l : Launch} {y : MethodName} {d mc ms : Nat} {cc : ByteArray} {maxL : Nat} {D : va_G} {cl : List vw_C} {tys : List (ClassId × FieldType)} {av : List Value} {wc : va_W} {w1 : S → va_W} (hy : plainName y.cls = true) (hyn : y.name = "<init>") (hn : (lg_sl av).length ≤ maxL)
    (body : ∀ (p : Program) (e : Env) (s : State) (m : MethodId) (below : List Frame) (meth : Method) (c : Code) (A : Nat → Prop) (ls : Array Slot) (Q : State → Prop), CallFix p m c cc maxL s av.toArray gw y.cls → pzN s → meth.name = "<init>" → va_K D cl tys s → va_P D cl wc s.heap → va_D A wc → va_S A s.heap s.heap [] → (∀ q : Nat, s.heap.size ≤ q → A q) → lv_has ls maxL (lv_args 0 av) →
      (∀ (H : Heap) (locs : List Loc) (pc : Nat) (ls : Array Slot) (ws : va_W) (u : S), decode cc pc = .ok (.return_, 1) → va_P D cl ws H → va_D A ws → va_S A s.heap H locs → ws = w1 u → W p l e (rmC d mc ms) s m av.toArray below meth c H locs mc ms Q (F0 m pc ls [])) →
      W p l e (rmC d mc ms) s m av.toArray below meth c s.heap [] 0 0 Q (F0 m 0 ls [])) : mC l y cc maxL d mc ms D cl tys av wc w1 := by
  intro sz
  refine Met.ofW (cc := cc) (maxL := maxL) (ret := none) hy rfl ?_
  intro p e s m args below meth c s₁ B hml hv
  obtain ⟨rfl, hsz, hP, hK, hD0, hN⟩ := hv
  subst hsz
  have hD := hD0.self (sz := s.heap.size)
  have hl := lv_entry av (n := maxL) hn
  rw [lg_entry_eq]
  have hin : meth.name = "<init>" := (name_of_methodNamed B.named B.method).1.trans hyn
  refine body p e s m below meth c (va_A wc s.heap.size) _ _ ⟨B.exec, B.bytes, hml, findClass_of_methodNamed B.named, fun w h => atoms_spec (ws := wg y cc maxL none) B.pre w (List.mem_cons_of_mem _ h)⟩ hN hin hK hP hD va_S.rf (fun q h => Or.inr h) hl ?_
  intro H locs pc ls ws u hd hP hD hS ew
  subst ew
  exact W.vret B.exec B.bytes B.returns (fun t ht hW => ⟨⟨u, rfl, trivial, (by show va_P D cl (w1 u) t.heap; rw [ht]; exact hP), hD⟩, hS.F ht⟩) hS.2.2 hd B.notSynchronized
section PZN
variable {p : Program} {l : Launch} {e : Env} {R : Room} {s : State} {m : MethodId} {args : Array Value} {below : List Frame} {meth : Method} {c : Code} {H : Heap} {locs : List Loc} {cells slots pc : Nat} {Q : State → Prop} {ls : Array Slot} {rest : List Value} {D : va_G} {cl : List vw_C} {tys : List (ClassId × FieldType)} {ws : va_W} {A : Nat → Prop} {cc : ByteArray}
theorem pz_newB (hexec : p.tables.exec = Jvm.exec) (hb : c.code = cc) (harr : (Cond.arrayClass .byte).before args s = true) (hK : va_K D cl tys s) (t0 : Nat) {cB : ClassId} (ht : tys[t0]? = some (cB, .byte)) (hP : va_P D cl ws H) (hD : va_D A ws) (hS : va_S A s.heap H locs) (hA : ∀ q, s.heap.size ≤ q → A q) {n : Int32} {N' : Nat} (hn : ¬ n < 0) (hN : n.toNatClampNeg = N') (hbytes : N' * componentBytes .byte ≤ 536870912) (hcells : cells + 1 ≤ R.cells) (hslots : slots + N' ≤ R.slots) (hdg : decode cc pc = .ok (.newarray .byte, 2))
    (kk : ∀ (q : Nat) (H1 : Heap), va_P D cl (ws ++ [(q, .inl (cB, N', .inl (fun _ => 0)))]) H1 → va_D A (ws ++ [(q, .inl (cB, N', .inl (fun _ => 0)))]) → va_S A s.heap H1 locs → W p l e R s m args below meth c H1 locs (cells + 1) (slots + N') Q (F0 m (pc + 2) ls (.ref q :: rest))) : W p l e R s m args below meth c H locs cells slots Q (F0 m pc ls (.int n :: rest)) := by
  refine va_newa (atype := .byte) (ty := .byte) (a0 := (N', .inl (fun _ => 0))) hexec hb harr rfl hK hP hD hS hA (fun cA => rfl) hn hN hbytes hcells hslots hdg (fun q cA H1 hK1 hP1 hD1 hS1 => ?_)
  have h1 : va_RA s cA .byte := (hK1.2 tys.length (cA, .byte) (by simp)).2
  have h2 : va_RA s cB .byte := (hK.2 t0 (cB, .byte) ht).2
  have e1 : cA = cB := Option.some.inj ((show s.vm.findClass _ = some cA from h1).symm.trans (show s.vm.findClass _ = some cB from h2))
  subst e1
  exact kk q H1 hP1 hD1 hS1
theorem pz_newI (hexec : p.tables.exec = Jvm.exec) (hb : c.code = cc) (harr : (Cond.arrayClass .int).before args s = true) (hK : va_K D cl tys s) (t0 : Nat) {cB : ClassId} (ht : tys[t0]? = some (cB, .int)) (hP : va_P D cl ws H) (hD : va_D A ws) (hS : va_S A s.heap H locs) (hA : ∀ q, s.heap.size ≤ q → A q) {n : Int32} {N' : Nat} (hn : ¬ n < 0) (hN : n.toNatClampNeg = N') (hbytes : N' * componentBytes .int ≤ 536870912) (hcells : cells + 1 ≤ R.cells) (hslots : slots + N' ≤ R.slots) (hdg : decode cc pc = .ok (.newarray .int, 2))
    (kk : ∀ (q : Nat) (H1 : Heap), va_P D cl (ws ++ [(q, .inl (cB, N', .inl (fun _ => 0)))]) H1 → va_D A (ws ++ [(q, .inl (cB, N', .inl (fun _ => 0)))]) → va_S A s.heap H1 locs → W p l e R s m args below meth c H1 locs (cells + 1) (slots + N') Q (F0 m (pc + 2) ls (.ref q :: rest))) : W p l e R s m args below meth c H locs cells slots Q (F0 m pc ls (.int n :: rest)) := by
  refine va_newa (atype := .int) (ty := .int) (a0 := (N', .inl (fun _ => 0))) hexec hb harr rfl hK hP hD hS hA (fun cA => rfl) hn hN hbytes hcells hslots hdg (fun q cA H1 hK1 hP1 hD1 hS1 => ?_)
  have h1 : va_RA s cA .int := (hK1.2 tys.length (cA, .int) (by simp)).2
  have h2 : va_RA s cB .int := (hK.2 t0 (cB, .int) ht).2
  have e1 : cA = cB := Option.some.inj ((show s.vm.findClass _ = some cA from h1).symm.trans (show s.vm.findClass _ = some cB from h2))
  subst e1
  exact kk q H1 hP1 hD1 hS1
end PZN
