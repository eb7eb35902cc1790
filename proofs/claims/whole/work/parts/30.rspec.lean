/-! THE REFERENCE'S METHODS as functions of its value. Arrays by number: 1 weights (long), 2 froms, 3 tos, 4 cents (long), 5 has, 6 days, 7 askedOn, 8 said, 9 noticeOf, 10 grams (long), 11 moveDays, 12 states, 13 since, 14 marked, 15 carrierCounts, 16 carriers, 17 rights. -/
abbrev RA : Type := Nat → Nat → Int32
abbrev RB : Type := Nat → Nat → Int64
abbrev RST : Type := Int32 × Int32 × Nat × Nat × RA × RB
def rA (A : RA) (r k : Nat) (x : Int32) : RA := va_up A r (upd (A r) k x)
def rB (B : RB) (r k : Nat) (x : Int64) : RB := va_up B r (vp_updL (B r) k x)
def sR_in (v a b : Int64) : Int32 := if v < a then 0 else if b < v then 0 else 1
def sR_sil (A : RA) (k : Nat) (d : Int32) : Int32 := if A 5 k = 0 then 0 else if A 8 k = 0 then (if d - A 7 k ≤ A 6 k then 0 else 1) else 0
def sR_dn (A : RA) (t a : Int32) : Nat → Int32
  | 0 => 0
  | k + 1 => sR_dn A t a k + (if sR_sil A k a = 0 then 0 else if sR_sil A k t = 0 then 1 else 0)
def sR_day (x : RST) (a : Int32) : Int32 × RST := if sR_in a.toInt64 x.1.toInt64 100000 = 0 then (-1, x) else (sR_dn x.2.2.2.2.1 x.1 a (6 * x.2.2.1), (a, x.2.1, x.2.2.1, x.2.2.2.1, x.2.2.2.2.1, x.2.2.2.2.2))
def sR_notice (x : RST) (g : Int64) (fr to : Int32) : Int32 × RST := if x.2.2.1 = 6 then (-1, x) else if sR_in g 1 1000000000 = 0 then (-1, x) else if sR_in fr.toInt64 0 100000 = 0 then (-1, x) else if sR_in to.toInt64 fr.toInt64 100000 = 0 then (-1, x) else (nI x.2.2.1, (x.1, x.2.1, x.2.2.1 + 1, x.2.2.2.1, rA (rA x.2.2.2.2.1 2 x.2.2.1 fr) 3 x.2.2.1 to, rB x.2.2.2.2.2 1 x.2.2.1 g))
def sR_country (x : RST) (n c d : Int32) : Int32 × RST := match ix x.2.2.1 n with
  | none => (0, x)
  | some i => match ix 6 c with
    | none => (0, x)
    | some b => if sR_in d.toInt64 0 1000 = 0 then (0, x) else if x.2.2.2.2.1 5 (6 * i + b) = 0 then (1, (x.1, x.2.1, x.2.2.1, x.2.2.2.1, rA (rA (rA (rA x.2.2.2.2.1 5 (6 * i + b) 1) 6 (6 * i + b) d) 7 (6 * i + b) x.1) 8 (6 * i + b) 0, x.2.2.2.2.2)) else (0, x)
def sR_says (x : RST) (n c y : Int32) : Int32 × RST := match ix x.2.2.1 n with
  | none => (0, x)
  | some i => match ix 6 c with
    | none => (0, x)
    | some b => if x.2.2.2.2.1 5 (6 * i + b) = 0 then (0, x) else if x.2.2.2.2.1 8 (6 * i + b) = 0 then (if sR_sil x.2.2.2.2.1 (6 * i + b) x.1 = 0 then (1, (x.1, x.2.1, x.2.2.1, x.2.2.2.1, rA x.2.2.2.2.1 8 (6 * i + b) (if y = 0 then 2 else 1), x.2.2.2.2.2)) else (0, x)) else (0, x)
def sR_s1 (A : RA) (k : Nat) (p : Int32) : Int32 := if p = 0 then (if A 5 k = 0 then 0 else if A 8 k = 2 then 1 else 0) else 1
def sR_s2 (A : RA) (k : Nat) (p : Int32) : Int32 := if p = 0 then (if A 5 k = 0 then 0 else 1) else 1
def sR_s3 (A : RA) (t : Int32) (k : Nat) (p : Int32) : Int32 := if p = 0 then 0 else if A 5 k = 0 then 1 else if A 8 k = 1 then 1 else if sR_sil A k t = 0 then 0 else 1
def sR_st (A : RA) (t : Int32) (i : Nat) : Nat → Int32 × Int32 × Int32
  | 0 => (0, 0, 1)
  | c + 1 => (sR_s1 A (6 * i + c) (sR_st A t i c).1, sR_s2 A (6 * i + c) (sR_st A t i c).2.1, sR_s3 A t (6 * i + c) (sR_st A t i c).2.2)
def sR_stt (A : RA) (t : Int32) (i : Nat) : Int32 := if (sR_st A t i 6).1 = 0 then (if t ≤ A 3 i then (if (sR_st A t i 6).2.1 = 0 then 0 else if (sR_st A t i 6).2.2 = 0 then 0 else 1) else 3) else 2
def sR_state (t : Int32) (nN : Nat) (A : RA) (n : Int32) : Int32 := match ix nN n with
  | none => -1
  | some i => sR_stt A t i
def sR_lf (A : RA) (B : RB) (w : Int64) (n : Int32) : Nat → Int64
  | 0 => w
  | m + 1 => sR_lf A B w n m - (if A 9 m = n then (if A 12 m = 4 then 0 else if A 12 m = 5 then 0 else B 10 m) else 0)
def sR_left (nN nM : Nat) (A : RA) (B : RB) (n : Int32) : Int64 := match ix nN n with
  | none => -1
  | some i => sR_lf A B (B 1 i) n nM
def sR_move (x : RST) (n : Int32) (g : Int64) (d : Int32) : Int32 × RST := match ix x.2.2.1 n with
  | none => (-1, x)
  | some i => if g < 1 then (-1, x) else if sR_in d.toInt64 (x.2.2.2.2.1 2 i).toInt64 (x.2.2.2.2.1 3 i).toInt64 = 0 then (-1, x) else if d < x.1 + 3 then (-1, x) else if x.2.2.2.1 = 12 then (-1, x) else if sR_stt x.2.2.2.2.1 x.1 i = 1 then (if g ≤ sR_lf x.2.2.2.2.1 x.2.2.2.2.2 (x.2.2.2.2.2 1 i) n x.2.2.2.1 then (nI x.2.2.2.1, (x.1, x.2.1, x.2.2.1, x.2.2.2.1 + 1, rA (rA (rA (rA x.2.2.2.2.1 9 x.2.2.2.1 n) 11 x.2.2.2.1 d) 12 x.2.2.2.1 0) 13 x.2.2.2.1 x.1, rB x.2.2.2.2.2 10 x.2.2.2.1 g)) else (-3, x)) else (-2, x)
def sR_mst (nM : Nat) (A : RA) (n : Int32) : Int32 := match ix nM n with
  | none => -1
  | some j => A 12 j
def sR_right (x : RST) (p e o : Int32) : Int32 × RST := match ix 8 p with
  | none => (0, x)
  | some a => match ix 5 e with
    | none => (0, x)
    | some b => (1, (x.1, x.2.1, x.2.2.1, x.2.2.2.1, rA x.2.2.2.2.1 17 (a * 5 + b) (vp_nar .boolean o), x.2.2.2.2.2))
def sR_leads (st e : Int32) : Int32 := if e = 0 then (if st = 0 then 1 else 0) else if e = 1 then (if st = 1 then 1 else 0) else if e = 2 then (if st = 2 then 1 else 0) else if e = 4 then (if st = 0 then 1 else 0) else (if st = 1 then 1 else if st = 2 then 1 else 0)
def sR_evR (x : RST) (j : Nat) (e : Int32) : Int32 × RST := (e + 1, (x.1, x.2.1, x.2.2.1, x.2.2.2.1, rA (rA x.2.2.2.2.1 12 j (e + 1)) 13 j x.1, x.2.2.2.2.2))
def sR_ev2 (x : RST) (j : Nat) (e : Int32) : Int32 × RST := if e = 2 then (if x.2.2.2.2.1 14 j = 0 then (-5, x) else sR_evR x j e) else sR_evR x j e
def sR_event (x : RST) (m e p : Int32) : Int32 × RST := match ix x.2.2.2.1 m with
  | none => (-1, x)
  | some j => match ix 5 e with
    | none => (-1, x)
    | some _ => match ix 8 p with
      | none => (-1, x)
      | some _ => if sC_may (x.2.2.2.2.1 17) p e = 0 then (-2, x) else if sR_leads (x.2.2.2.2.1 12 j) e = 0 then (-3, x) else if e = 0 then (if x.1 < x.2.2.2.2.1 11 j then (-4, x) else if sR_state x.1 x.2.2.1 x.2.2.2.2.1 (x.2.2.2.2.1 9 j) = 1 then sR_ev2 x j e else (-4, x)) else sR_ev2 x j e
def sR_mark (x : RST) (m a b : Int32) : Int32 × RST := match ix x.2.2.2.1 m with
  | none => (0, x)
  | some j => if a = b then (0, x) else if sC_may (x.2.2.2.2.1 17) a 2 = 0 then (0, x) else if sC_may (x.2.2.2.2.1 17) b 2 = 0 then (0, x) else if x.2.2.2.2.1 12 j = 2 then (if x.2.2.2.2.1 14 j = 0 then (1, (x.1, x.2.1, x.2.2.1, x.2.2.2.1, rA x.2.2.2.2.1 14 j 1, x.2.2.2.2.2)) else (0, x)) else (0, x)
def sR_bank (x : RST) (n : Int32) (c : Int64) : Int32 × RST := match ix x.2.2.1 n with
  | none => (0, x)
  | some i => if sR_in c 1 1000000000 = 0 then (0, x) else if x.2.2.2.2.2 4 i + c ≤ 10000000000 then (1, (x.1, x.2.1, x.2.2.1, x.2.2.2.1, x.2.2.2.2.1, rB x.2.2.2.2.2 4 i (x.2.2.2.2.2 4 i + c))) else (0, x)
def sR_rc (A : RA) (B : RB) (n : Int32) : Nat → Int64
  | 0 => 0
  | m + 1 => sR_rc A B n m + (if A 9 m = n then (if A 12 m = 3 then B 10 m else 0) else 0)
def sR_held (nN nM : Nat) (A : RA) (B : RB) (n : Int32) : Int64 := match ix nN n with
  | none => -1
  | some i => B 4 i - (B 4 i / B 1 i * sR_rc A B n nM + (B 4 i - B 4 i / B 1 i * B 1 i) * sR_rc A B n nM / B 1 i)
def sR_limit (x : RST) (d : Int32) : Int32 × RST := if sR_in d.toInt64 0 1000 = 0 then (0, x) else (1, (x.1, d, x.2.2.1, x.2.2.2.1, x.2.2.2.2.1, x.2.2.2.2.2))
def sR_lt (t lm : Int32) (A : RA) (k : Int32) : Nat → Nat → Int32 → Int32
  | 0, _, _ => -1
  | r + 1, m, b => if A 12 m = 2 then (if t - A 13 m ≤ lm then sR_lt t lm A k r (m + 1) b else if b = k then nI m else sR_lt t lm A k r (m + 1) (b + 1)) else sR_lt t lm A k r (m + 1) b
def sR_cc (A : RA) (j : Nat) : Nat := (A 15 j).toNatClampNeg
def sR_carrier (x : RST) (m c : Int32) : Int32 × RST := match ix x.2.2.2.1 m with
  | none => (-1, x)
  | some j => if sR_in c.toInt64 0 99 = 0 then (-1, x) else if x.2.2.2.2.1 12 j = 1 then (if sR_cc x.2.2.2.2.1 j = 6 then (-1, x) else if 0 < sR_cc x.2.2.2.2.1 j ∧ x.2.2.2.2.1 16 (6 * j + sR_cc x.2.2.2.2.1 j - 1) = c then (-1, x) else (nI (sR_cc x.2.2.2.2.1 j + 1), (x.1, x.2.1, x.2.2.1, x.2.2.2.1, rA (rA x.2.2.2.2.1 16 (6 * j + sR_cc x.2.2.2.2.1 j) c) 15 j (nI (sR_cc x.2.2.2.2.1 j + 1)), x.2.2.2.2.2))) else (-1, x)
def sR_back (nM : Nat) (A : RA) (m k : Int32) : Int32 := match ix nM m with
  | none => -1
  | some j => if k < 0 then -1 else if k < A 15 j then A 16 (6 * j + sR_cc A j - 1 - k.toNatClampNeg) else -1
-- the printed paper: its text as a list, written by the class into a row, counted down by the reference
def tx_num (v : Nat) : Nat → Bool → List Int32
  | 0, _ => []
  | k + 1, b => if b = true ∨ ¬ v / 10 ^ k % 10 = 0 ∨ k = 0 then nI (48 + v / 10 ^ k % 10) :: tx_num v k true else tx_num v k false
def tx_n (v : Nat) : List Int32 := tx_num v 10 false
abbrev sR_P : Type := Int32 × Int32
def sR_put (p : sR_P) (u : Int32) : sR_P := (p.1 - 1, if p.1 = 0 then u else p.2)
def sR_puts (p : sR_P) (l : List Int32) : sR_P := l.foldl sR_put p
def sp_adds (p : sp_P) (l : List Int32) : sp_P := l.foldl sp_add p
def sR_let (st : Int32) : Int32 := if st = 0 then 116 else if st = 1 then 107 else if st = 2 then 118 else if st = 3 then 99 else if st = 4 then 114 else 120
/-- the head: number, grams, from, to, state -/
def tx_head (i g a b s : Nat) : List Int32 := tx_n i ++ 32 :: tx_n g ++ 32 :: tx_n a ++ 32 :: tx_n b ++ 32 :: tx_n s
def tx_move (j g : Nat) (l : Int32) : List Int32 := 44 :: tx_n j ++ 58 :: tx_n g ++ [l]
