/-! THE CLAIM OUT OF ONE WALK OF THE LAW'S BODY. Your part is whole_start (and what it stands on); all else here is the same for every law, but numbers. -/
def R_law : String := "MapLumpsLaw"
def lw_P (b : Addr) (xs : List Int32) (args : Array Value) (s : State) : Prop := args = #[.ref b] ∧ s.IntsAt b xs ∧ xs.length ≤ 2048 ∧ (Jvm.Cond.and given_1 narrow_1).before args s = true
def lw_Q (_ : Array Value) (s : State) (o : Outcome) (t : State) : Prop := o = .returned (some (.int 1)) ∧ Framed s o t [] 600000 7302250
def lw_Z (below : List Frame) (a : Array Value) (s : State) : State → Prop := fun t => ∃ o, t.status = .running ∧ Ended t below o ∧ lw_Q a s o t
/-- the law's own end, with 1 on the stack, nothing written that was there before, its room as the claim has it -/
theorem lw_ret {p : Program} {l : Launch} {e : Env} {s : State} {m : MethodId} {below : List Frame} {meth : Method} {c : Code} {b : Nat} (hx : p.tables.exec = Jvm.exec) (hb : c.code = code) (hr : meth.sig.returnType = ret) (hlocks : meth.locks = false) {pc : Nat} {H : Heap} {ls : Array Slot} (hdg : decode code pc = .ok (.ireturn, 1)) : W p l e room_1 s m #[Value.ref b] below meth c H [] 600000 7302250 (lw_Z below #[Value.ref b] s) (F0 m pc ls [.int 1]) := by
  intro T hT X
  obtain ⟨fs, hret, hrun, hended, hW, hframe⟩ := X.leave (v := some (.int 1)) (hlocks := hlocks) (fun h => by rw [hr] at h; cases h)
  have hmeth' : T.vm.method? m = some meth := X.method'
  refine ⟨T.setFrames fs, ?_, .returned (some (.int 1)), hrun, hended, rfl, ⟨_, rfl⟩, hW, hframe⟩
  jvm_step X.here [X.here.top, hx, hb, hdg, hmeth', hr, ret, narrow_b1]
  (try refine ⟨rfl, ?_⟩); (try refine ⟨rfl, ?_⟩)
  first | (intro acts; rw [hret _ acts rfl rfl rfl]) | rw [hret _ _ rfl rfl rfl]
  exact Steps.refl _
/-- what holds at the law's entry: the machine, the code, the tables' words (any of lw_tbl by 'hts w (by decide +kernel)'), the script of L ints xs at the cell b, what the Statement gives of the start (any of its parts by flat_of_before) -/
def lw_At (p : Program) (s : State) (m : MethodId) (meth : Method) (c : Code) (b L : Nat) (xs : Nat → Int32) : Prop :=
  p.tables.exec = Jvm.exec ∧ c.code = code ∧ meth.sig.returnType = ret ∧ c.maxLocals = 4 ∧ s.vm.findClass R_law = some m.cls ∧ (∀ w ∈ lw_tbl, w.before #[Value.ref b] s = true) ∧ va_X b L xs s s.heap ∧ b < s.heap.size ∧ meth.locks = false ∧ (Jvm.Cond.and given_1 narrow_1).before #[Value.ref b] s = true
/-! THE LAW: class and reference side by side -/
abbrev LWd (cB cI cS : ClassId) (u0 r0 rw rb rx ry rs ow ob m0 mr mb mt o0 ib pb qb : Nat) (ad : Nat → Nat) (f : Nat → Int32) (n : Nat) (fo : Nat → Int32) (no : Nat) (fm : Nat → Int32) (nm : Nat) (nv nt ns nw wa fw : Int32) (q : S3) (vx vy : Nat → Int32) (sp : Nat → E4) (pr mv mx ms mw ma mb_ mc_ : Int32) (g : Nat → Int32) (th ck : Int32) (z : S5) : va_W := [(u0, .inr (0, [.ref r0, .ref rw, .ref ow, .ref m0])), (r0, .inr (1, [.ref rw, .ref rx, .ref ry, .ref rs, .int nv, .int nt, .int ns, .int nw, .int wa, .int q.1, .int q.2.1, .int q.2.2, .int fw])), (rw, .inr (3, [.ref rb, .int (nI n)])), (rb, .inl (cB, 8192, .inl f)), (rx, .inl (cI, 128, .inl vx)), (ry, .inl (cI, 128, .inl vy)), (rs, .inl (cS, 128, .inr (.inr (.inr (.inr (fun i => some (ad i))))))), (ow, .inr (3, [.ref ob, .int (nI no)])), (ob, .inl (cB, 8192, .inl fo)), (m0, .inr (2, [.ref mr, .ref mt, .int pr, .int mv, .int mx, .int ms, .int mw, .int ma, .int mb_, .int mc_])), (mr, .inr (3, [.ref mb, .int (nI nm)])), (mb, .inl (cB, 8192, .inl fm)), (mt, .inl (cI, 16, .inl g)), (o0, .inr (5, [.int th, .ref ib, .int (nI n), .ref pb, .int (nI nm), .ref qb, .int (nI no), .int z.2.1, .int z.2.2.1, .int ck, .int z.1, .int z.2.2.2.1, .int z.2.2.2.2])), (ib, .inl (cB, 8192, .inl f)), (pb, .inl (cB, 8192, .inl fm)), (qb, .inl (cB, 8192, .inl fo))] ++ spw ad sp
/-- what holds between the two -/
def LI (f : Nat → Int32) (n no : Nat) (fm : Nat → Int32) (nm : Nat) (fw : Int32) (q : S3) (pr mv mx ms mw ma mb_ mc_ : Int32) (g : Nat → Int32) (ck : Int32) (z : S5) : Prop := n ≤ 8192 ∧ no ≤ 8192 ∧ nm ≤ 8192 ∧ sb_Fit f ∧ sb_Fit fm ∧ q.2.1 = z.2.1 ∧ q.2.2 = z.2.2.1 ∧ fw = ck ∧ MT fm nm pr mv mx ms mw ma mb_ mc_ g
/-- the loop's head, at i: from any state in which the two are alike -/
def NX (p : Program) (l : Launch) (e : Env) (s : State) (m : MethodId) (b : Nat) (below : List Frame) (meth : Method) (c : Code) (D : va_G) (cB cI cS : ClassId) (u0 r0 rw rb rx ry rs ow ob m0 mr mb mt o0 ib pb qb : Nat) (ad : Nat → Nat) (i : Nat) : Prop := ∀ (f : Nat → Int32) (n : Nat) (fo : Nat → Int32) (no : Nat) (fm : Nat → Int32) (nm : Nat) (nv nt ns nw wa fw : Int32) (q : S3) (vx vy : Nat → Int32) (sp : Nat → E4) (pr mv mx ms mw ma mb_ mc_ : Int32) (g : Nat → Int32) (th ck : Int32) (z : S5) (H : Heap) (locs : List Loc) (ls : Array Slot), LI f n no fm nm fw q pr mv mx ms mw ma mb_ mc_ g ck z → va_P D cls (LWd cB cI cS u0 r0 rw rb rx ry rs ow ob m0 mr mb mt o0 ib pb qb ad f n fo no fm nm nv nt ns nw wa fw q vx vy sp pr mv mx ms mw ma mb_ mc_ g th ck z) H → va_D (fun x : Nat => s.heap.size ≤ x) (LWd cB cI cS u0 r0 rw rb rx ry rs ow ob m0 mr mb mt o0 ib pb qb ad f n fo no fm nm nv nt ns nw wa fw q vx vy sp pr mv mx ms mw ma mb_ mc_ g th ck z) → va_S (fun x : Nat => s.heap.size ≤ x) s.heap H locs → lv_has ls 4 [(3, .int (nI i)), (2, .ref o0), (1, .ref u0), (0, .ref b)] → W p l e room_1 s m #[Value.ref b] below meth c H locs 145 50622 (lw_Z below #[Value.ref b] s) (F0 m 18 ls [])
theorem fit_up {f : Nat → Int32} (h : sb_Fit f) (k : Nat) (x : Int32) : sb_Fit (upd f k x.toInt8.toInt32) := fun i => by
  by_cases q : i = k
  · subst q
    rw [pk_us]
    exact pk_fb x
  · rw [pk_un q]
    exact h i
theorem fit_gvl (v : Int64) : ∀ (j : Nat) (f : Nat → Int32) (n : Nat), sb_Fit f → sb_Fit (gvl v j f n)
  | 0, _, _, h => h
  | j + 1, f, n, h => fit_gvl v j _ (n + 1) (fit_up h n _)
theorem fit_gv {f : Nat → Int32} (h : sb_Fit f) (n : Nat) (v : Int64) (k : Int32) : sb_Fit (gvF f n v k) := by
  unfold gvF
  split
  · exact h
  · split
    · exact h
    · split
      · exact fit_gvl v _ f n h
      · exact h
theorem gvN_le {n : Nat} (h : n ≤ 8192) (k : Int32) : gvN n k ≤ 8192 := by
  unfold gvN
  split
  · exact h
  · rename_i h1
    split
    · exact h
    · rename_i h2
      split
      · rename_i h3
        obtain ⟨K, rfl, -, hk, hk2⟩ := gv_le h h1 h2 h3
        rw [nI_clamp (by omega)]
        exact hk2
      · exact h
theorem rshN_le {n : Nat} (h : n ≤ 8192) (k : Int32) : rshN n k ≤ 8192 := by
  unfold rshN
  split
  · exact h
  · rename_i h1
    split
    · rename_i h2
      obtain ⟨K, hk, rfl⟩ := nI_of h1
      rw [nI_leI hk (by omega)] at h2
      rw [nI_clamp hk]
      omega
    · exact h
theorem fit_put {f : Nat → Int32} (h : sb_Fit f) (n : Nat) (k x : Int32) : sb_Fit (rputF f n k x) := by
  unfold rputF
  split
  · exact h
  · split
    · exact fit_up h _ _
    · exact h
theorem fit_ck {f : Nat → Int32} (h : sb_Fit f) (n : Nat) : sb_Fit (ckF f n) := by
  unfold ckF
  split
  · exact fit_put (fit_put h _ _ _) _ _ _
  · exact h
theorem fit_cpy {f g : Nat → Int32} (h : sb_Fit f) (h2 : sb_Fit g) (n : Nat) : sb_Fit (va_cpy f g 0 0 n) := fun i => by
  by_cases q : i < n
  · rw [cpy_ag f g n i q]
    exact h i
  · rw [pk_cpy_out (by omega)]
    exact h2 i
theorem fit_0 : sb_Fit (fun _ => (0 : Int32)) := fun _ => rfl
theorem ycQ_f (f : Nat → Int32) (n : Nat) (z : S5) : (ycQ f n z).2.1 = z.2.1 ∧ (ycQ f n z).2.2.1 = z.2.2.1 := by
  unfold ycQ
  split
  · exact ⟨rfl, rfl⟩
  · exact ⟨rfl, rfl⟩
theorem lw_in {i L k : Nat} (h : i + 4 ≤ L) (hL : L ≤ 2048) (hk : k < 4) : vp_in (nI i + nI k) L := by
  rw [nI_add]
  exact vp_in_nI (by omega) (by omega)
theorem lw_lt {i L : Nat} (hi : i ≤ L) (hL : L ≤ 2048) : nI L - 4 < nI i ↔ L < i + 4 := by
  rw [Int32.lt_iff_toInt_lt, nI_toInt (by omega), show (4 : Int32) = nI 4 from rfl, pk_sub_toInt (by omega) (by omega)]
  omega
