/-! OWN KIT: a constructor's call -/
section PZJ
variable {p : Program} {l : Launch} {e : Env} {R : Room} {s : State} {m : MethodId} {args a : Array Value} {below : List Frame} {meth : Method} {c : Code} {H : Heap} {locs : List Loc} {cells slots pc nL index maxL mc ms d : Nat} {Q : State → Prop} {ls : Array Slot} {st0 rest : List Value} {D : va_G} {cl : List vw_C} {tys : List (ClassId × FieldType)} {ws wc wr : va_W} {A : Nat → Prop} {cc bytes : ByteArray} {y : MethodName} {own host : String} {b : Nat}
theorem pz_c {S : Type} {w1 : S → va_W} (hr : va_Run p l e R s m args below meth c H locs cells slots mc ms (F0 m pc ls st0) rest (pzC D cl H.size wc w1 a) (va_A wc H.size)) (hP : va_P D cl ws H) (hD : va_D A ws) (hS : va_S A s.heap H locs) (hA : ∀ q : Nat, s.heap.size ≤ q → A q) (isC isR : List Nat) (hC : isC.map (fun i => ws[i]?) = wc.map some) (hR : isR.map (fun i => ws[i]?) = wr.map some) (hn : va_nd isR = true) (hdis : ∀ i ∈ isR, i ∉ isC)
    (kk : ∀ (u : S) (H1 : Heap) (locs1 : List Loc), va_P D cl (wr ++ w1 u) H1 → va_D A (wr ++ w1 u) → va_S A s.heap H1 locs1 → W p l e R s m args below meth c H1 locs1 (cells + mc) (slots + ms) Q (F0 m (pc + 3) ls rest)) : W p l e R s m args below meth c H locs cells slots Q (F0 m pc ls st0) := by
  have hFc := va_free (wc := wc) hD hS hA isC hC
  refine va_callv hr hS (fun q _ h => hFc q h) hFc (fun u t H1 locs1 ht hvm hv hB hz1 hk1 hS1 => ?_)
  obtain ⟨hP1, hD1⟩ := hB
  rw [ht] at hP1
  obtain ⟨hP', hD'⟩ := va_join hP hD isC isR hC hR hn hdis hk1 hFc hP1 hD1
  exact kk u H1 locs1 hP' hD' hS1
def pzI_ (y : MethodName) (cc : ByteArray) (maxL : Nat) (n : Nat) : Prop := Cond.instanceMethod y ∈ gw ∧ Cond.initialized y.cls ∈ gw ∧ Cond.code y cc maxL none ∈ gw ∧ y.name = "<init>" ∧ y.cls ≠ "java/lang/invoke/MethodHandle" ∧ y.cls ≠ "java/lang/invoke/VarHandle" ∧ (parseMethodDescriptor y.desc).map (fun d => d.parameters.length) = some n
theorem pz_rIN {Qc : Array Value → State → Outcome → State → Prop} (X : CallFix p m c cc nL s args gw own) (hN : pzN s) (hM : Met l y (wg y bytes maxL none) (rmC d mc ms) (pzP D cl tys H.size [.ref b] wc) Qc mc ms (va_A wc H.size)) (hy : pzI_ y bytes maxL 0) (hk : va_Nw (.methodLinkNest own index y host) s) (hR : d + 1 ≤ R.frames ∧ 8 + (maxL + 11) + 40 * d ≤ R.locals) (hK : va_K D cl tys s) (hP : va_P D cl ws H) (hD : va_D A ws) (is : List Nat) (hC : is.map (fun i => ws[i]?) = wc.map some) (hn : va_nd is = true) (hz : ls.size = nL) (hst : st0 = .ref b :: rest) (hW : (rest.map fun v => v.category).sum ≤ 8) (hdg : decode cc pc = .ok (.invokespecial index, 3)) (hf : cells + mc ≤ R.cells ∧ slots + ms ≤ R.slots) :
    va_Run p l e R s m args below meth c H locs cells slots mc ms (F0 m pc ls st0) rest (Qc (Value.ref b :: []).toArray) (va_A wc H.size) := by
  obtain ⟨h1, h3, h4, h5, h6, h7, h8⟩ := hy
  exact va_runIN (As := []) X hM ⟨va_cnB 0 X.2.2.2.2 (wg_good h4) rfl rfl rfl hk (X.2.2.2.2 _ h3) ⟨h6, h7, h8⟩ hR, h5, X.2.2.2.2 _ h1⟩ ⟨pzP_blind, pzP_at hP hD hK hN is hC hn⟩ rfl rfl hz hst (lv_room hW) hdg hf
theorem pz_rI {Qc : Array Value → State → Outcome → State → Prop} (X : CallFix p m c cc nL s args gw own) (hN : pzN s) (hM : Met l y (wg y bytes maxL none) (rmC d mc ms) (pzP D cl tys H.size [.ref b] wc) Qc mc ms (va_A wc H.size)) (hy : pzI_ y bytes maxL 0) (m1 : Cond.methodLink own index y ∈ gw) (hR : d + 1 ≤ R.frames ∧ 8 + (maxL + 11) + 40 * d ≤ R.locals) (hK : va_K D cl tys s) (hP : va_P D cl ws H) (hD : va_D A ws) (is : List Nat) (hC : is.map (fun i => ws[i]?) = wc.map some) (hn : va_nd is = true) (hz : ls.size = nL) (hst : st0 = .ref b :: rest) (hW : (rest.map fun v => v.category).sum ≤ 8) (hdg : decode cc pc = .ok (.invokespecial index, 3)) (hf : cells + mc ≤ R.cells ∧ slots + ms ≤ R.slots) :
    va_Run p l e R s m args below meth c H locs cells slots mc ms (F0 m pc ls st0) rest (Qc (Value.ref b :: []).toArray) (va_A wc H.size) := by
  obtain ⟨h1, h3, h4, h5, h6, h7, h8⟩ := hy
  exact va_runI (As := []) X hM (cwI 0 X.2.2.2.2 (wg_good h4) rfl rfl rfl (X.2.2.2.2 _ h3) (X.2.2.2.2 _ m1) (X.2.2.2.2 _ h1) h5 ⟨h6, h7, h8⟩ hR) ⟨pzP_blind, pzP_at hP hD hK hN is hC hn⟩ rfl rfl hz hst (lv_room hW) hdg hf
end PZJ
theorem k_Rw_init : pzI_ y_Rw_init b_Rw_init 1 0 := ⟨w_27, w_3, w_28, rfl, by decide, by decide, by decide +kernel⟩
theorem k_Sp_init : pzI_ y_Sp_init b_Sp_init 1 0 := ⟨w_44, w_4, w_45, rfl, by decide, by decide, by decide +kernel⟩
theorem k_Mp_init : pzI_ y_Mp_init b_Mp_init 1 0 := ⟨w_122, w_5, w_123, rfl, by decide, by decide, by decide +kernel⟩
theorem k_Rd_init : pzI_ y_Rd_init b_Rd_init 2 0 := ⟨w_21, w_2, w_22, rfl, by decide, by decide, by decide +kernel⟩
theorem k_Lu_init : pzI_ y_Lu_init b_Lu_init 1 0 := ⟨w_13, w_1, w_14, rfl, by decide, by decide, by decide +kernel⟩
theorem k_Mo_init : pzI_ y_Mo_init b_Mo_init 1 0 := ⟨w_415, w_6, w_416, rfl, by decide, by decide, by decide +kernel⟩
theorem df_Lu : ∀ j, j < 4 → defaultValue (ty_Lu j) = vp_V [.null, .null, .null, .null] j := by
  intro j hj
  rcases (show j = 0 ∨ j = 1 ∨ j = 2 ∨ j = 3 by omega) with rfl | rfl | rfl | rfl <;> rfl
theorem df_Rd : ∀ j, j < 13 → defaultValue (ty_Rd j) = vp_V [.null, .null, .null, .null, .int 0, .int 0, .int 0, .int 0, .int 0, .int 0, .int 0, .int 0, .int 0] j := by
  intro j hj
  rcases (show j = 0 ∨ j = 1 ∨ j = 2 ∨ j = 3 ∨ j = 4 ∨ j = 5 ∨ j = 6 ∨ j = 7 ∨ j = 8 ∨ j = 9 ∨ j = 10 ∨ j = 11 ∨ j = 12 by omega) with rfl | rfl | rfl | rfl | rfl | rfl | rfl | rfl | rfl | rfl | rfl | rfl | rfl <;> rfl
theorem df_Mp : ∀ j, j < 10 → defaultValue (ty_Mp j) = vp_V [.null, .null, .int 0, .int 0, .int 0, .int 0, .int 0, .int 0, .int 0, .int 0] j := by
  intro j hj
  rcases (show j = 0 ∨ j = 1 ∨ j = 2 ∨ j = 3 ∨ j = 4 ∨ j = 5 ∨ j = 6 ∨ j = 7 ∨ j = 8 ∨ j = 9 by omega) with rfl | rfl | rfl | rfl | rfl | rfl | rfl | rfl | rfl | rfl <;> rfl
theorem df_Rw : ∀ j, j < 2 → defaultValue (ty_Rw j) = vp_V [.null, .int 0] j := by
  intro j hj
  rcases (show j = 0 ∨ j = 1 by omega) with rfl | rfl <;> rfl
theorem df_Sp : ∀ j, j < 8 → defaultValue (ty_Sp j) = vp_V [.int 0, .int 0, .int 0, .int 0, .int 0, .int 0, .int 0, .int 0] j := by
  intro j hj
  rcases (show j = 0 ∨ j = 1 ∨ j = 2 ∨ j = 3 ∨ j = 4 ∨ j = 5 ∨ j = 6 ∨ j = 7 by omega) with rfl | rfl | rfl | rfl | rfl | rfl | rfl | rfl <;> rfl
theorem df_Mo : ∀ j, j < 13 → defaultValue (ty_Mo j) = vp_V [.int 0, .null, .int 0, .null, .int 0, .null, .int 0, .int 0, .int 0, .int 0, .int 0, .int 0, .int 0] j := by
  intro j hj
  rcases (show j = 0 ∨ j = 1 ∨ j = 2 ∨ j = 3 ∨ j = 4 ∨ j = 5 ∨ j = 6 ∨ j = 7 ∨ j = 8 ∨ j = 9 ∨ j = 10 ∨ j = 11 ∨ j = 12 by omega) with rfl | rfl | rfl | rfl | rfl | rfl | rfl | rfl | rfl | rfl | rfl | rfl | rfl <;> rfl
