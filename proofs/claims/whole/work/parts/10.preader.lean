/-! THE CLASS's reader, as pure functions -/
/-- reading: the place, the fault, the fault's place -/
abbrev S3 : Type := Int32 × Int32 × Int32
def fl (q : S3) (num pl : Int32) : S3 := if q.2.1 = 0 then (q.1, num, pl) else q
def nx (f : Nat → Int32) (n : Nat) (q : S3) : Int32 × S3 := if q.2.1 = 0 then (if rg f n q.1 = -1 then (0, fl q 1 (nI n)) else (rg f n q.1, (q.1 + 1, q.2))) else (0, q)
def ex (f : Nat → Int32) (n : Nat) (q : S3) (due num : Int32) : S3 := if (nx f n q).1 = due then (nx f n q).2 else fl (nx f n q).2 num q.1
def jdS (q : S3) (v lo hi pl : Int32) : S3 := if v < lo then fl q 3 pl else if v ≤ hi then q else fl q 3 pl
def jd (q : S3) (v lo hi pl : Int32) : Int32 × S3 := (if (jdS q v lo hi pl).2.1 = 0 then v else 0, jdS q v lo hi pl)
def sm (f : Nat → Int32) (n : Nat) (q : S3) (lo hi : Int32) : Int32 × S3 := jd (nx f n q).2 (nx f n q).1 lo hi q.1
def sa (f : Nat → Int32) (n : Nat) (q : S3) (hi : Int32) : Int32 × S3 := if (nx f n q).1 = 255 then nx f n q else jd (nx f n q).2 (nx f n q).1 0 hi q.1
def wd (f : Nat → Int32) (n : Nat) (q : S3) (lo hi : Int32) : Int32 × S3 := jd (nx f n (nx f n q).2).2 (w16 (256 * (nx f n q).1 + (nx f n (nx f n q).2).1)) lo hi q.1
def hdS (f : Nat → Int32) (n : Nat) (q : S3) : S3 := ex f n (ex f n (ex f n q 77 2) 72 2) 1 2
def hd1 (f : Nat → Int32) (n : Nat) (q : S3) : Int32 × S3 := sm f n (hdS f n q) 0 128
def hd2 (f : Nat → Int32) (n : Nat) (q : S3) : Int32 × S3 := sm f n (hd1 f n q).2 0 16
def hd3 (f : Nat → Int32) (n : Nat) (q : S3) : Int32 × S3 := sm f n (hd2 f n q).2 1 32
def hd4 (f : Nat → Int32) (n : Nat) (q : S3) : Int32 × S3 := sm f n (hd3 f n q).2 0 128
/-- is the place of vertex k that of one of the numbers o, o + 1 ..? -/
def tkn (xs ys : Nat → Int32) (k : Nat) : Nat → Nat → Int32
  | 0, _ => 0
  | d + 1, o => if xs o = xs k then (if ys o = ys k then 1 else tkn xs ys k d (o + 1)) else tkn xs ys k d (o + 1)
abbrev SV : Type := S3 × (Nat → Int32) × (Nat → Int32)
def vs1 (f : Nat → Int32) (n : Nat) (q : S3) : Int32 × S3 := wd f n q (-32768) 32767
def vs2 (f : Nat → Int32) (n : Nat) (q : S3) : Int32 × S3 := wd f n (vs1 f n q).2 (-32768) 32767
def vst (f : Nat → Int32) (n : Nat) (k : Nat) (z : SV) : SV := (if tkn (upd z.2.1 k (vs1 f n z.1).1) (upd z.2.2 k (vs2 f n z.1).1) k k 0 = 0 then (vs2 f n z.1).2 else fl (vs2 f n z.1).2 3 (vs1 f n z.1).2.1, upd z.2.1 k (vs1 f n z.1).1, upd z.2.2 k (vs2 f n z.1).1)
def vlp (f : Nat → Int32) (n : Nat) (v : Int32) : Nat → Nat → SV → SV
  | 0, _, z => z
  | d + 1, k, z => if v ≤ nI k then z else if z.1.2.1 = 0 then vlp f n v d (k + 1) (vst f n k z) else z
def txi (f : Nat → Int32) (n : Nat) : Nat → S3 → S3
  | 0, q => q
  | d + 1, q => if q.2.1 = 0 then txi f n d (sm f n q 0 15).2 else q
def tx1 (f : Nat → Int32) (n : Nat) (q : S3) : Int32 × S3 := sm f n q 0 4
def tx2 (f : Nat → Int32) (n : Nat) (q : S3) : Int32 × S3 := sm f n (tx1 f n q).2 0 4
def txw (x : Int32) : Int32 := 1 <<< (x &&& 31)
def txs (f : Nat → Int32) (n : Nat) (q : S3) : S3 := txi f n (txw (tx1 f n q).1 * txw (tx2 f n q).1).toNatClampNeg (tx2 f n q).2
def txl (f : Nat → Int32) (n : Nat) : Nat → S3 → S3
  | 0, q => q
  | d + 1, q => if q.2.1 = 0 then txl f n d (txs f n q) else q
def sc1 (f : Nat → Int32) (n : Nat) (q : S3) : Int32 × S3 := wd f n q (-1024) 1024
def sc2 (f : Nat → Int32) (n : Nat) (q : S3) : Int32 × S3 := wd f n (sc1 f n q).2 ((sc1 f n q).1 + 1) 1024
def sc3 (f : Nat → Int32) (n : Nat) (t : Int32) (q : S3) : Int32 × S3 := sm f n (sc2 f n q).2 0 (t - 1)
def sc4 (f : Nat → Int32) (n : Nat) (t : Int32) (q : S3) : Int32 × S3 := sa f n (sc3 f n t q).2 (t - 1)
def sc5 (f : Nat → Int32) (n : Nat) (t : Int32) (q : S3) : Int32 × S3 := sm f n (sc4 f n t q).2 0 15
def sc6 (f : Nat → Int32) (n : Nat) (t : Int32) (q : S3) : Int32 × S3 := sm f n (sc5 f n t q).2 0 3
def sc7 (f : Nat → Int32) (n : Nat) (t : Int32) (q : S3) : Int32 × S3 := sm f n (sc6 f n t q).2 0 255
def scl (f : Nat → Int32) (n : Nat) (t : Int32) : Nat → S3 → S3
  | 0, q => q
  | d + 1, q => if q.2.1 = 0 then scl f n t d (sc7 f n t q).2 else q
def we1 (f : Nat → Int32) (n : Nat) (v : Int32) (q : S3) : Int32 × S3 := sm f n q 0 (v - 1)
def we2 (f : Nat → Int32) (n : Nat) (v : Int32) (q : S3) : Int32 × S3 := sm f n (we1 f n v q).2 0 (v - 1)
def weS (f : Nat → Int32) (n : Nat) (v : Int32) (q : S3) : S3 := if (we1 f n v q).1 = (we2 f n v q).1 then fl (we2 f n v q).2 3 (we1 f n v q).2.1 else (we2 f n v q).2
def weE (f : Nat → Int32) (n : Nat) (v : Int32) (xs ys : Nat → Int32) (q : S3) (e : E4) : E4 := if 128 ≤ (we1 f n v q).1 then e else if 128 ≤ (we2 f n v q).1 then e else (xs (we1 f n v q).1.toNatClampNeg, ys (we1 f n v q).1.toNatClampNeg, xs (we2 f n v q).1.toNatClampNeg, ys (we2 f n v q).1.toNatClampNeg)
def wt3 (f : Nat → Int32) (n : Nat) (hi : Int32) (q : S3) : S3 := (sa f n (sa f n (sa f n q hi).2 hi).2 hi).2
def wl1 (f : Nat → Int32) (n : Nat) (v s : Int32) (q : S3) : Int32 × S3 := sm f n (weS f n v q) 0 (s - 1)
def wl2 (f : Nat → Int32) (n : Nat) (v s : Int32) (q : S3) : Int32 × S3 := sa f n (wl1 f n v s q).2 (s - 1)
def wl3 (f : Nat → Int32) (n : Nat) (v t s : Int32) (q : S3) : S3 := wt3 f n (if (wl2 f n v s q).1 = 255 then -1 else t - 1) (wt3 f n (t - 1) (wl2 f n v s q).2)
def wl4 (f : Nat → Int32) (n : Nat) (v t s : Int32) (q : S3) : S3 := (sm f n (sm f n (sm f n (sm f n (wl3 f n v t s q) 0 255).2 0 3).2 0 5).2 0 255).2
abbrev SW : Type := S3 × (Nat → E4)
def pu {α : Type} (g : Nat → α) (k : Nat) (x : α) : Nat → α := fun j => if j = k then x else g j
def wst (f : Nat → Int32) (n : Nat) (v t s : Int32) (xs ys : Nat → Int32) (k : Nat) (z : SW) : SW := (wl4 f n v t s z.1, pu z.2 k (weE f n v xs ys z.1 (z.2 k)))
def wlp (f : Nat → Int32) (n : Nat) (v t s w : Int32) (xs ys : Nat → Int32) : Nat → Nat → SW → SW
  | 0, _, z => z
  | d + 1, k, z => if w ≤ nI k then z else if z.1.2.1 = 0 then wlp f n v t s w xs ys d (k + 1) (wst f n v t s xs ys k z) else z
def stS (f : Nat → Int32) (n : Nat) (s : Int32) (q : S3) : S3 := (sm f n (sm f n (wd f n (wd f n q (-32768) 32767).2 (-32768) 32767).2 0 63).2 0 (s - 1)).2
def enD (f : Nat → Int32) (q : S3) : Int32 := 256 * (sum2 f q.1.toNatClampNeg).1 + (sum2 f q.1.toNatClampNeg).2
def en2 (f : Nat → Int32) (n : Nat) (q : S3) : S3 := ex f n (ex f n q (enD f q >>> ((8 : Int32) &&& 31)) 4) (enD f q &&& 255) 4
def enS (f : Nat → Int32) (n : Nat) (q : S3) : S3 := if nI n ≤ (en2 f n q).1 then en2 f n q else fl (en2 f n q) 5 (en2 f n q).1
/-- the lower walls o, o + 1 .. of wall k: the reading, and the wall of a fault 6 -/
abbrev SM : Type := S3 × Int32
def mk1 (sp : Nat → E4) (wa : Int32) (k : Nat) : Nat → Nat → SM → SM
  | 0, _, z => z
  | d + 1, o, z => if z.1.2.1 = 0 then mk1 sp wa k d (o + 1) (if mts (sp k) (sp o) = 0 then z else (fl z.1 6 (wa + 14 * nI k), nI k)) else z
def mk2 (sp : Nat → E4) (wa nw : Int32) : Nat → Nat → SM → SM
  | 0, _, z => z
  | d + 1, k, z => if nw ≤ nI k then z else if z.1.2.1 = 0 then mk2 sp wa nw d (k + 1) (mk1 sp wa k k 0 z) else z
