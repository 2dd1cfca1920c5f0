/-! the spans are made one by one -/
def spN (ad : Nat → Nat) (i : Nat) : va_W := (List.range i).map (fun k => (ad k, spE (0, 0, 0, 0)))
theorem spN_push (ad : Nat → Nat) (i q : Nat) : spN ad i ++ [(q, spE (0, 0, 0, 0))] = spN (pu ad i q) (i + 1) := by
  unfold spN
  rw [List.range_succ, List.map_append]
  congr 1
  · refine List.map_congr_left (fun k hk => ?_)
    have := List.mem_range.mp hk
    simp only [pu, if_neg (show ¬ k = i by omega)]
  · simp only [List.map_cons, List.map_nil, pu, if_true]
theorem spN_len (ad : Nat → Nat) (i : Nat) : (spN ad i).length = i := by simp [spN]
theorem spN_last {X : va_W} {ad : Nat → Nat} {i L : Nat} {c : Nat × va_E} (hL : X.length = L) : ([L + i] : List Nat).map (fun k => ((X ++ spN ad i) ++ [c])[k]?) = ([c] : va_W).map some := by
  simp only [List.map_cons, List.map_nil]
  rw [List.getElem?_append_right (by rw [List.length_append, spN_len, hL]; omega), List.length_append, spN_len, hL, Nat.sub_self]
  rfl
theorem spN_at {X : va_W} {ad : Nat → Nat} {i L : Nat} {c : Nat × va_E} (hL : X.length = L) : ((X ++ spN ad i) ++ [c])[L + i]? = some c := by
  rw [List.getElem?_append_right (by rw [List.length_append, spN_len, hL]; omega), List.length_append, spN_len, hL, Nat.sub_self]
  rfl
theorem spN_all (ad : Nat → Nat) : spN ad 128 = spw ad (fun _ => (0, 0, 0, 0)) := rfl
theorem cq_congr {cS : ClassId} {n : Nat} {g g' : Nat → Option Nat} (h : ∀ k, k < n → g k = g' k) : vp_cell cS (n, .inr (.inr (.inr (.inr g)))) = vp_cell cS (n, .inr (.inr (.inr (.inr g')))) := by
  rw [vp_cell_q, vp_cell_q]
  unfold arrV
  congr 2
  funext j
  show va_rf (g j.val) = va_rf (g' j.val)
  rw [h j.val j.isLt]
theorem pz_P5 {D : va_G} {cl : List vw_C} {a b c d e : Nat × va_E} {rs n : Nat} {cS : ClassId} {g g' : Nat → Option Nat} {pl : va_W} {H : Heap} (h : ∀ k, k < n → g k = g' k) (hP : va_P D cl ([a, b, c, d, e, (rs, .inl (cS, n, .inr (.inr (.inr (.inr g)))))] ++ pl) H) : va_P D cl ([a, b, c, d, e, (rs, .inl (cS, n, .inr (.inr (.inr (.inr g')))))] ++ pl) H := by
  intro k q hk
  match k, hk with
  | 0, hk => exact hP 0 q hk
  | 1, hk => exact hP 1 q hk
  | 2, hk => exact hP 2 q hk
  | 3, hk => exact hP 3 q hk
  | 4, hk => exact hP 4 q hk
  | 5, hk =>
    have h5 := hP 5 _ rfl
    cases hk
    show H[rs]? = some (vp_cell cS (n, .inr (.inr (.inr (.inr g')))))
    rw [← cq_congr h]
    exact h5
  | k + 6, hk => exact hP (k + 6) q hk
theorem pz_D5 {A : Nat → Prop} {a b c d e : Nat × va_E} {rs : Nat} {x y : va_E} {pl : va_W} (hD : va_D A ([a, b, c, d, e, (rs, x)] ++ pl)) : va_D A ([a, b, c, d, e, (rs, y)] ++ pl) := hD.set (p := 5) (a := rs) (e0 := x) (e := y) rfl
theorem pz_c0 {p : Program} {l : Launch} {e : Env} {R : Room} {s : State} {m : MethodId} {args a : Array Value} {below : List Frame} {meth : Method} {c : Code} {H : Heap} {locs : List Loc} {cells slots pc : Nat} {Q : State → Prop} {ls : Array Slot} {st0 rest : List Value} {D : va_G} {cl : List vw_C} {ws wc : va_W} {A : Nat → Prop} (hr : va_Run p l e R s m args below meth c H locs cells slots 0 0 (F0 m pc ls st0) rest (pzC D cl H.size wc (fun _ : Unit => wc) a) (va_A wc H.size)) (hP : va_P D cl ws H) (hD : va_D A ws) (hS : va_S A s.heap H locs) (hA : ∀ q : Nat, s.heap.size ≤ q → A q) (is : List Nat) (hC : is.map (fun i => ws[i]?) = wc.map some)
    (kk : ∀ (H1 : Heap) (locs1 : List Loc), va_P D cl ws H1 → va_S A s.heap H1 locs1 → W p l e R s m args below meth c H1 locs1 cells slots Q (F0 m (pc + 3) ls rest)) : W p l e R s m args below meth c H locs cells slots Q (F0 m pc ls st0) := by
  have hFc := va_free (wc := wc) hD hS hA is hC
  refine va_callv hr hS (fun q _ h => hFc q h) hFc (fun u t H1 locs1 ht hvm hv hB hz1 hk1 hS1 => ?_)
  obtain ⟨hP1, -⟩ := hB
  rw [ht] at hP1
  have h2 := (pz_frame hP hD is hC rfl hk1 hP1).1
  rw [pz_put_same is wc ws hC] at h2
  exact kk H1 locs1 h2 hS1
theorem hg_step {g : Nat → Option Nat} {ad : Nat → Nat} {i q : Nat} (hg : ∀ k, k < i → g k = some (ad k)) : ∀ k, k < i + 1 → va_up g i (some q) k = some (pu ad i q k) := by
  intro k hk
  by_cases e9 : k = i
  · subst e9
    simp [va_up, pu]
  · simp only [va_up, pu, if_neg e9]
    exact hg k (by omega)
