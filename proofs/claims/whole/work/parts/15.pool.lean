/-! the 128 spans: cells at ad 0, ad 1 .. -/
abbrev spE (a : E4) : va_E := .inr (4, [.int a.1, .int a.2.1, .int a.2.2.1, .int a.2.2.2, .int (mnI a.1 a.2.2.1), .int (mxI a.1 a.2.2.1), .int (mnI a.2.1 a.2.2.2), .int (mxI a.2.1 a.2.2.2)])
def spw (ad : Nat → Nat) (sp : Nat → E4) : va_W := (List.range 128).map (fun k => (ad k, spE (sp k)))
theorem spw_get {X : va_W} {ad : Nat → Nat} {sp : Nat → E4} {L k : Nat} (hL : X.length = L) (hk : k < 128) : (X ++ spw ad sp)[L + k]? = some (ad k, spE (sp k)) := by
  subst hL
  rw [List.getElem?_append_right (Nat.le_add_right _ _), Nat.add_sub_cancel_left]
  simp only [spw, List.getElem?_map, List.getElem?_range hk, Option.map_some]
theorem spw_set {X : va_W} {ad : Nat → Nat} {sp : Nat → E4} {L k : Nat} (hL : X.length = L) (hk : k < 128) (v : E4) : (X ++ spw ad sp).set (L + k) (ad k, spE v) = X ++ spw ad (pu sp k v) := by
  subst hL
  rw [List.set_append_right _ _ (Nat.le_add_right _ _), Nat.add_sub_cancel_left]
  congr 1
  refine List.ext_getElem? (fun j => ?_)
  rw [List.getElem?_set]
  by_cases hj : j < 128
  · simp only [spw, List.getElem?_map, List.getElem?_range hj, Option.map_some, List.length_map, List.length_range]
    by_cases e : k = j
    · subst e
      simp only [if_true, hk, pu]
    · rw [if_neg e]
      simp only [pu, if_neg (fun q : j = k => e q.symm)]
  · have h1 : (spw ad sp)[j]? = none := List.getElem?_eq_none (by simp only [spw, List.length_map, List.length_range]; omega)
    have h2 : (spw ad (pu sp k v))[j]? = none := List.getElem?_eq_none (by simp only [spw, List.length_map, List.length_range]; omega)
    rw [h1, h2, if_neg (by omega)]
theorem nd6 (k : Nat) : va_nd [0, 1, 2, 3, 4, 6 + k] = true := by
  simp [va_nd]
  omega
theorem ndk {L k o : Nat} (h : o < k) : va_nd [L + k, L + o] = true := by
  simp [va_nd]
  omega
theorem spw_hC6 {a b c d e g : Nat × va_E} {ad : Nat → Nat} {sp : Nat → E4} {k : Nat} (hk : k < 128) : ([0, 1, 2, 3, 4, 6 + k] : List Nat).map (fun i => ([a, b, c, d, e, g] ++ spw ad sp)[i]?) = ([a, b, c, d, e, (ad k, spE (sp k))] : va_W).map some := by
  simp only [List.map_cons, List.map_nil]
  rw [spw_get (X := [a, b, c, d, e, g]) (L := 6) rfl hk]
  rfl
theorem spw_put6 {a b c d e g a' b' c' d' e' : Nat × va_E} {ad : Nat → Nat} {sp : Nat → E4} {k : Nat} (v : E4) (hk : k < 128) : pz_put [0, 1, 2, 3, 4, 6 + k] [a', b', c', d', e', (ad k, spE v)] ([a, b, c, d, e, g] ++ spw ad sp) = [a', b', c', d', e', g] ++ spw ad (pu sp k v) :=
  spw_set (X := [a', b', c', d', e', g]) (L := 6) rfl hk v
theorem spw_hC2 {X : va_W} {ad : Nat → Nat} {sp : Nat → E4} {L k o : Nat} (hL : X.length = L) (hk : k < 128) (ho : o < 128) : ([L + k, L + o] : List Nat).map (fun i => (X ++ spw ad sp)[i]?) = ([(ad k, spE (sp k)), (ad o, spE (sp o))] : va_W).map some := by
  simp only [List.map_cons, List.map_nil]
  rw [spw_get hL hk, spw_get hL ho]
/-- the pool as a whole -/
def pls (L : Nat) : List Nat := (List.range 128).map (fun k => L + k)
theorem spw_hC {X cx : va_W} {ad : Nat → Nat} {sp : Nat → E4} {L : Nat} (is : List Nat) (hL : X.length = L) (h1 : is.map (fun i => X[i]?) = cx.map some) (hb : ∀ i ∈ is, i < L) : (is ++ pls L).map (fun i => (X ++ spw ad sp)[i]?) = (cx ++ spw ad sp).map some := by
  rw [List.map_append, List.map_append, ← h1]
  congr 1
  · refine List.map_congr_left (fun i hi => ?_)
    rw [List.getElem?_append_left (by rw [hL]; exact hb i hi)]
  · rw [pls, spw, List.map_map, List.map_map]
    refine List.map_congr_left (fun k hk => ?_)
    exact spw_get hL (List.mem_range.mp hk)
theorem pz_put_app : ∀ (a : List Nat) (c : va_W) (b : List Nat) (d ws : va_W), a.length = c.length → pz_put (a ++ b) (c ++ d) ws = pz_put b d (pz_put a c ws)
  | [], [], _, _, _, _ => rfl
  | [], _ :: _, _, _, _, h => absurd h (by simp)
  | _ :: _, [], _, _, _, h => absurd h (by simp)
  | i :: a, x :: c, b, d, ws, h => pz_put_app a c b d (ws.set i x) (Nat.succ.inj h)
theorem pz_put_left : ∀ (is : List Nat) (w1 X Y : va_W), (∀ i ∈ is, i < X.length) → pz_put is w1 (X ++ Y) = pz_put is w1 X ++ Y
  | [], _, _, _, _ => rfl
  | _ :: _, [], _, _, _ => rfl
  | i :: is, x :: w1, X, Y, h => by
    show pz_put is w1 ((X ++ Y).set i x) = pz_put is w1 (X.set i x) ++ Y
    rw [List.set_append_left _ _ (h i List.mem_cons_self)]
    exact pz_put_left is w1 (X.set i x) Y (fun j hj => by rw [List.length_set]; exact h j (List.mem_cons_of_mem _ hj))
theorem pz_put_len : ∀ (is : List Nat) (w1 X : va_W), (pz_put is w1 X).length = X.length
  | [], _, _ => rfl
  | _ :: _, [], _ => rfl
  | i :: is, x :: w1, X => by
    show (pz_put is w1 (X.set i x)).length = X.length
    rw [pz_put_len is w1 (X.set i x), List.length_set]
theorem spw_putm {X : va_W} {ad : Nat → Nat} (sp sp' : Nat → E4) {L : Nat} (hL : X.length = L) : ∀ m : Nat, m ≤ 128 → pz_put ((List.range m).map (fun k => L + k)) ((List.range m).map (fun k => (ad k, spE (sp' k)))) (X ++ spw ad sp) = X ++ spw ad (fun k => if k < m then sp' k else sp k)
  | 0, _ => by
    show X ++ spw ad sp = _
    congr 1
  | m + 1, h => by
    rw [List.range_succ, List.map_append, List.map_append, pz_put_app _ _ _ _ _ (by simp), spw_putm sp sp' hL m (by omega)]
    show (X ++ spw ad (fun k => if k < m then sp' k else sp k)).set (L + m) (ad m, spE (sp' m)) = _
    rw [spw_set hL (by omega)]
    congr 2
    funext j
    simp only [pu]
    by_cases e : j = m
    · subst e
      rw [if_pos rfl, if_pos (by omega)]
    · rw [if_neg e]
      by_cases q : j < m
      · rw [if_pos q, if_pos (by omega)]
      · rw [if_neg q, if_neg (by omega)]
theorem spw_congr {ad : Nat → Nat} {sp sp' : Nat → E4} (h : ∀ k, k < 128 → sp k = sp' k) : spw ad sp = spw ad sp' := by
  unfold spw
  refine List.map_congr_left (fun k hk => ?_)
  rw [h k (List.mem_range.mp hk)]
theorem spw_put {X wx : va_W} {ad : Nat → Nat} {sp sp' : Nat → E4} {L : Nat} (is : List Nat) (hL : X.length = L) (hl : is.length = wx.length) (hb : ∀ i ∈ is, i < L) : pz_put (is ++ pls L) (wx ++ spw ad sp') (X ++ spw ad sp) = pz_put is wx X ++ spw ad sp' := by
  rw [pz_put_app _ _ _ _ _ hl, pz_put_left is wx X _ (fun i hi => by rw [hL]; exact hb i hi)]
  show pz_put (pls L) (spw ad sp') (pz_put is wx X ++ spw ad sp) = _
  have h := spw_putm (ad := ad) sp sp' (X := pz_put is wx X) (L := L) (by rw [pz_put_len, hL]) 128 (Nat.le_refl _)
  refine h.trans ?_
  congr 1
theorem sm_nn (f : Nat → Int32) (n : Nat) (q : S3) (hi : Int32) : ¬ (sm f n q 0 hi).1 < 0 := by
  rcases jd_rng (nx f n q).2 (nx f n q).1 0 hi q.1 with h1 | ⟨h1, -, h3, -⟩
  · show ¬ (jd (nx f n q).2 (nx f n q).1 0 hi q.1).1 < 0
    rw [h1]; decide
  · show ¬ (jd (nx f n q).2 (nx f n q).1 0 hi q.1).1 < 0
    rw [h3]; exact h1
theorem spw_fst (ad : Nat → Nat) (sp : Nat → E4) : (spw ad sp).map Prod.fst = (List.range 128).map ad := by
  rw [spw, List.map_map]
  rfl
theorem spw_adr {X : va_W} {as : List Nat} {ad : Nat → Nat} {sp : Nat → E4} (h : X.map Prod.fst = as) : (X ++ spw ad sp).map Prod.fst = as ++ (List.range 128).map ad := by
  rw [List.map_append, spw_fst, h]
