/-! WHAT THE CALLS ANSWER, as plain functions of the way: v 0 turns, v 1 lengths, v 2 landmarks, v 3 words; marks mk -/
def lv9 (a : Int32) : Bool := decide (a < 0) || decide (24 < a)
def nb (a i : Int32) : Int32 := if lv9 (a + i) = true then a - i else a + i
def nt (T : Nat → Int32) (st : Int32) : Nat → Int32
  | 0 => 12
  | k + 1 => nb (nt T st k) (T k * st)
def fmd (x y : Int32) : Int32 := if (x ^^^ y) < 0 ∧ ¬ (x - x / y * y) = 0 then (x - x / y * y) + y else x - x / y * y
def hd (T : Nat → Int32) : Nat → Int32
  | 0 => 0
  | k + 1 => fmd (hd T k + T k) 8
def eaT (j : Nat) : Int32 := ([0, 1, 1, 1, 0, -1, -1, -1] : List Int32).getD j 0
def noT (j : Nat) : Int32 := ([1, 1, 0, -1, -1, -1, 0, 1] : List Int32).getD j 0
abbrev ix (x : Int32) : Nat := x.toNatClampNeg
def px (T L : Nat → Int32) : Nat → Int32
  | 0 => 0
  | k + 1 => px T L k + L k * eaT (ix (hd T (k + 1)))
def py (T L : Nat → Int32) : Nat → Int32
  | 0 => 0
  | k + 1 => py T L k + L k * noT (ix (hd T (k + 1)))
def mx (x y : Int32) : Int32 := if x < y then y else x
def mn (x y : Int32) : Int32 := if y < x then y else x
def ab (x : Int32) : Int32 := if 0 ≤ x then x else 0 - x
def exB (P : Nat → Bool) : Nat → Bool
  | 0 => false
  | n + 1 => exB P n || P n
/-- how many of the first n -/
def ctB (P : Nat → Bool) : Nat → Int32
  | 0 => 0
  | n + 1 => if P n = true then ctB P n + 1 else ctB P n
def sumI (f : Nat → Int32) : Nat → Int32
  | 0 => 0
  | n + 1 => sumI f n + f n
/-- whether the way was at the end of leg k as the n-th place ahead was reached -/
def rtE (v : Nat → Nat → Int32) (k n : Nat) : Bool := decide (px (v 0) (v 1) n = px (v 0) (v 1) (k + 1)) && decide (py (v 0) (v 1) n = py (v 0) (v 1) (k + 1))
def rtP (v : Nat → Nat → Int32) (k : Nat) : Bool := exB (rtE v k) (k + 1)
def rtn (v : Nat → Nat → Int32) (N : Nat) : Int32 := ctB (rtP v) N
def fold1 (v : Nat → Nat → Int32) (st : Int32) (k : Nat) : Bool := lv9 (nt (v 0) st k + v 0 k * st)
def tsa (note ahead st : Int32) : Nat → Int32
  | 0 => 0
  | j + 1 => if nb ahead ((nI j - 3) * st) = note then tsa note ahead st j + 1 else tsa note ahead st j
def lc (W : Nat → Int32) (x : Int32) : Nat → Int32
  | 0 => 0
  | j + 1 => if W j = x then lc W x j + 1 else lc W x j
def tw (a t st : Int32) : Bool := decide (¬ t = 0) && (lv9 (a + st * t) || lv9 (a + -st * t))
def wd (v : Nat → Nat → Int32) (k : Nat) : Int32 := v 3 (ix (v 2 k))
def rdn (v : Nat → Nat → Int32) (st : Int32) (k : Nat) : Int32 := (if tw (nt (v 0) st k) (v 0 k) st = true then 2 else 1) * lc (v 3) (wd v k) 10
def rrn (v : Nat → Nat → Int32) (st : Int32) (k : Nat) : Int32 := (if (tw (nt (v 0) st k) (v 0 k) st && decide (0 < v 0 k)) = true then lc (v 3) (wd v k) 10 else 0) + lc (v 3) (wd v k) (ix (v 2 k))
def amb (v : Nat → Nat → Int32) (st : Int32) (mk : Nat → Bool) (k : Nat) : Bool := !mk k && decide (1 < rdn v st k)
def wys (v : Nat → Nat → Int32) (st : Int32) (mk : Nat → Bool) : Nat → Int64
  | 0 => 1
  | k + 1 => if amb v st mk k = true then (if 1000000000 < wys v st mk k * (rdn v st k).toInt64 then 1000000000 else wys v st mk k * (rdn v st k).toInt64) else wys v st mk k
/-- the first of the first n, n if there is none -/
def fst (P : Nat → Bool) : Nat → Nat
  | 0 => 0
  | n + 1 => if fst P n < n then fst P n else if P n = true then n else n + 1
def fam (v : Nat → Nat → Int32) (st : Int32) (mk : Nat → Bool) (N : Nat) : Int32 := if fst (amb v st mk) N < N then nI (fst (amb v st mk) N) else -1
/-- how many would be ambiguous with the words W and the step by, none mended -/
def umP (v : Nat → Nat → Int32) (W : Nat → Int32) (by1 : Int32) (k : Nat) : Bool := decide (1 < (if tw (nt (v 0) by1 k) (v 0 k) by1 = true then 2 else 1) * lc W (W (ix (v 2 k))) 10)
def unm (v : Nat → Nat → Int32) (W : Nat → Int32) (by1 : Int32) (N : Nat) : Int32 := ctB (umP v W by1) N
/-- whether another landmark has the word of a -/
def shE (W : Nat → Int32) (a o : Nat) : Bool := decide (¬ o = a) && decide (W o = W a)
/-- the smallest place of the least of f 0 .. f n -/
def amin (f : Nat → Int32) : Nat → Nat
  | 0 => 0
  | n + 1 => if f (n + 1) < f (amin f n) then n + 1 else amin f n
def unW (v : Nat → Nat → Int32) (st : Int32) (N j : Nat) (x : Int32) : Int32 := unm v (upd (v 3) j x) st N
def bwd (v : Nat → Nat → Int32) (st : Int32) (N j : Nat) : Nat := amin (fun x => unW v st N j (nI x)) 9
def bst (v : Nat → Nat → Int32) (N : Nat) : Nat := amin (fun x => unm v (v 3) (nI (x + 1)) N) 3 + 1
def hi9 (T : Nat → Int32) (st : Int32) : Nat → Int32
  | 0 => 0
  | k + 1 => mx (hi9 T st k) (nt T st (k + 1))
def lo9 (T : Nat → Int32) (st : Int32) : Nat → Int32
  | 0 => 24
  | k + 1 => mn (lo9 T st k) (nt T st (k + 1))
def rng (v : Nat → Nat → Int32) (st : Int32) (N : Nat) : Int32 := if N = 0 then 0 else hi9 (v 0) st N - lo9 (v 0) st N
def sgP (v : Nat → Nat → Int32) (x : Int32) (k : Nat) : Bool := decide (wd v k = x)
def sung (v : Nat → Nat → Int32) (x : Int32) (N : Nat) : Int32 := ctB (sgP v x) N
def optI : Option Nat → Int32
  | none => -1
  | some b => nI b
def optR (v : Nat → Nat → Int32) (st : Int32) : Option Nat → Int32
  | none => 1
  | some b => rdn v st b
/-- the place of the ambiguous verse with the most readings among the first n, of several the first; none: n0 = 16 -/
def mst (v : Nat → Nat → Int32) (st : Int32) (mk : Nat → Bool) : Nat → Option Nat
  | 0 => none
  | k + 1 => match mst v st mk k with
    | none => if amb v st mk k = true then some k else none
    | some b => if amb v st mk k = true ∧ rdn v st b < rdn v st k then some k else some b
def dg (d : Int64) (x : Int64) : Int64 := d * 31 + x
def dgI (d : Int64) (x : Int32) : Int64 := dg d x.toInt64
def dgLeg (v : Nat → Nat → Int32) (st : Int32) (mk : Nat → Bool) (d : Int64) (k : Nat) : Int64 :=
  dgI (dgI (dgI (dgI (dgI (dgI (dgI (dgI d (v 0 k)) (hd (v 0) (k + 1))) (v 2 k)) (nt (v 0) st (k + 1))) (wd v k)) (rdn v st k)) (rrn v st k)) (b2i (mk k))
def dgLegs (v : Nat → Nat → Int32) (st : Int32) (mk : Nat → Bool) (d : Int64) : Nat → Int64
  | 0 => d
  | k + 1 => dgLeg v st mk (dgLegs v st mk d k) k
def dgWords (v : Nat → Nat → Int32) (st : Int32) (N : Nat) (d : Int64) : Nat → Int64
  | 0 => d
  | j + 1 => dgI (dgI (dgWords v st N d j) (v 3 j)) (nI (bwd v st N j))
def dgHead (v : Nat → Nat → Int32) (st : Int32) (mk : Nat → Bool) (N : Nat) : Int64 :=
  dgI (dg (dgI (dgI (dgI (dgI (dgI (dgI (dgI (dgI (dgI (dgI 1051 (nI N)) st) (px (v 0) (v 1) N)) (py (v 0) (v 1) N)) (mx (ab (px (v 0) (v 1) N)) (ab (py (v 0) (v 1) N)))) (rtn v N)) (sumI (v 1) N)) (ctB (fold1 v st) N)) (rng v st N)) (ctB (amb v st mk) N)) (wys v st mk N)) (nI (bst v N))
def dgst (v : Nat → Nat → Int32) (st : Int32) (mk : Nat → Bool) (N : Nat) : Int64 := dgWords v st N (dgLegs v st mk (dgHead v st mk N) N) 10
/-- what holds of every way: its numbers in their ranges -/
def Ok (N : Nat) (st : Int32) (v : Nat → Nat → Int32) : Prop := N ≤ 16 ∧ (∃ s : Nat, s < 4 ∧ st = nI (s + 1)) ∧ (∀ k : Nat, ∃ e : Nat, e < 7 ∧ v 0 k = nI e - 3) ∧ (∀ k : Nat, ∃ j : Nat, j < 10 ∧ v 2 k = nI j)
/-- what the class keeps for each of the first K legs -/
def Der (K : Nat) (st : Int32) (v w : Nat → Nat → Int32) : Prop := ∀ k : Nat, k < K → w 0 k = hd (v 0) (k + 1) ∧ w 1 k = px (v 0) (v 1) (k + 1) ∧ w 2 k = py (v 0) (v 1) (k + 1) ∧ w 3 k = nt (v 0) st (k + 1)
theorem b2i_f {b : Bool} (h : b2i b = 0) : b = false := by cases b <;> simp_all [b2i]
theorem b2i_t {b : Bool} (h : ¬ b2i b = 0) : b = true := by cases b <;> simp_all [b2i]
theorem b2i_nar {b : Bool} : narrow .boolean (.int (b2i b)) = .int (b2i b) := by cases b <;> decide
theorem b2i_1 {b : Bool} (h : b = true) : (1 : Int32) = b2i b := by rw [h]; rfl
theorem b2i_0 {b : Bool} (h : b = false) : (0 : Int32) = b2i b := by rw [h]; rfl
theorem nb_t {a i : Int32} (h : lv9 (a + i) = true) : a - i = nb a i := by unfold nb; rw [if_pos h]
theorem nb_f {a i : Int32} (h : lv9 (a + i) = false) : a + i = nb a i := by unfold nb; rw [h]; rfl
theorem nI_3 (j : Nat) : nI j - 3 + 1 = nI (j + 1) - 3 := by
  rw [nI_succ, Int32.sub_eq_add_neg, Int32.sub_eq_add_neg, Int32.add_assoc, Int32.add_assoc, Int32.add_comm (-3) 1]
theorem nI_3T {j : Nat} (h : j < 100) : (nI j - 3).toInt = (j : Int) - 3 := by
  rw [show (3 : Int32) = nI 3 from rfl]
  exact pk_sub_toInt (by omega) (by omega)
theorem nI_3lt {i j : Nat} (hi : i < 100) (hj : j < 100) : nI i - 3 < nI j - 3 ↔ i < j := by
  rw [Int32.lt_iff_toInt_lt, nI_3T hi, nI_3T hj]; omega
theorem nI_3le {i j : Nat} (hi : i < 100) (hj : j < 100) : nI i - 3 ≤ nI j - 3 ↔ i ≤ j := by
  rw [Int32.le_iff_toInt_le, nI_3T hi, nI_3T hj]; omega
