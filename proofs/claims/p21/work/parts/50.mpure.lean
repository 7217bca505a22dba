/-! THE MODEL, PURE: row 0 of its numbers as a state; what its methods make of it -/
def layM (s : Sx) (f : Nat → Int32) : Nat → Int32 := fun i => if i < 142 then lay2 s i else f i
abbrev HM (L : Nat) (g : Nat → Nat → Int32) (s : Sx) (f : Nat → Int32) : Hp := HP L (upf g 87 (layM s f))
section LM
variable {s : Sx} {f : Nat → Int32} {a k : Nat} {v : Int32}
end LM
def mAcc (s : Sx) (p : Nat) (v : Int32) : Int32 :=
  if s.H 0 = nI 2 then (if ¬ p < wrs s ∨ s.H 1 = nI 1 then s.H 3 else v + nI 1)
  else if s.H 0 = nI 4 then (if p < wrs s then s.H 4 else if s.H 1 = nI 1 then nI 1 else nI 2 * s.H 4 - nI 1)
  else if s.H 0 = nI 5 then (if p < wrs s then (if s.H 1 = nI 1 then nI 1 else nI 3) else nI 2)
  else nI 1
abbrev mWt (s : Sx) (p : Nat) : Prop := if p < wrs s then ¬ s.H 0 = nI 5 ∨ s.P p 1 = s.P p 5 - nI 1 else s.H 0 = nI 4 ∧ s.H 4 ≤ s.P p 1
def mBtw (n i j : Int32) : Int32 := n + i * (n - nI 1) + (if j < i then j else j - nI 1)
def mCR (s : Sx) (p : Nat) : Int32 :=
  if s.H 0 = nI 2 ∨ s.H 0 = nI 5 then s.P p 1
  else if s.H 0 = nI 4 then (if s.P p 1 = 0 then nI p - nI (wrs s) else if s.P p 1 < s.H 4 then mBtw (s.H 4) (if s.P p 1 - nI 1 < nI p - nI (wrs s) then s.P p 1 - nI 1 else s.P p 1) (nI p - nI (wrs s)) else s.H 4 + (nI p - nI (wrs s)) * (s.H 4 - nI 1) + s.P p 1 - s.H 4)
  else nI 0
def mBit (s : Sx) (v k : Int32) : Int32 := if s.H 1 = 0 then v - k else if k = s.H 3 - nI 1 then v else if k < v then k else k + nI 1
def mCW (s : Sx) (p : Nat) : Int32 :=
  if s.H 0 = nI 2 then mBit s (valW s p) (s.P p 1)
  else if s.H 0 = nI 4 then s.P p 1
  else if s.H 0 = nI 5 then (if mWt s p then nI p else s.P p 1)
  else nI 0
def mCel (s : Sx) (p : Nat) : Int32 := if p < wrs s then mCW s p else mCR s p
def mSt (s : Sx) (p : Nat) : Int32 := if s.H 0 < nI 5 then s.P p 3 else (if s.H 1 = nI 1 then s.P p 3 else s.P p 4 / nI 100) + nI 1
def mNm (s : Sx) (p : Nat) : Int32 :=
  if p < wrs s then (if s.H 0 < nI 2 then valW s p else if s.H 0 = nI 2 then b2 (mCel s p = valW s p) else nI 100 * mSt s p + nI 10 * nI p + valW s p) else s.P p 3
def mNote (s : Sx) (p : Nat) (x : Int32) : Sx := (s.sP p (8 + ix (s.P p 7)) x).sP p 7 (s.P p 7 + nI 1)
abbrev mBg (s : Sx) (p : Nat) : Prop := ¬ s.P p 0 = -1 ∧ s.P p 2 = nI 1
def mBgB (p : Nat) (c : Int32) (wr : Prop) [Decidable wr] (s : Sx) (q : Nat) : Sx :=
  if ¬ q = p ∧ mBg s q ∧ mCel s q = c then (if wr then (if mWt s q then s else mNote s q (mNm s p)) else (if mWt s q then mNote s p (mNm s q) else s)) else s
def mBgA (s : Sx) (p n : Nat) : Sx := itr (mBgB p (mCel s p) (mWt s p)) n (((s.sP p 2 (nI 1)).sP p 6 (s.C (ix (mCel s p)))).sP p 7 (nI 0))
/-- a row's numbers, each once, as they come first -/
def ddl (f : Nat → Int32) : Nat → List Int32
  | 0 => []
  | k + 1 => if f k ∈ ddl f k then ddl f k else ddl f k ++ [f k]
def mNum (s : Sx) (p : Nat) (k : Nat) : Int32 := if k = 0 then s.P p 6 else s.P p (7 + k)
def fnd (l : List Int32) (w : Int32) : Int32 := if w < 0 then -1 else (l[ix w]?).getD (-1)
def mDd (s : Sx) (p : Nat) : List Int32 := ddl (mNum s p) (ix (s.P p 7) + 1)
def mReg (s : Sx) (p : Nat) (w : Int32) : Int32 := if w < 0 then nI (mDd s p).length else fnd (mDd s p) w
def mChs (s : Sx) (p : Nat) : Int32 :=
  if s.P p 0 = -1 then nI 0 else if ¬ mBg s p ∨ mWt s p ∨ s.P p 7 = 0 then nI 1 else if s.H 2 = nI 1 then mReg s p (-1) else if s.H 0 = nI 2 then nI 2 else s.H 3
def mGot (s : Sx) (p : Nat) (ch : Int32) : Int32 :=
  if s.H 2 = nI 2 then s.C (ix (mCel s p)) else if s.P p 7 = 0 then s.P p 6 else if s.H 2 = nI 1 then mReg s p ch else ch
def mEnd (s : Sx) (p : Nat) (t : Int32) : Sx := ((((s.sA (ix (s.P p 0)) 3 (s.H 5)).sA (ix (s.P p 0)) 4 t).sP p 0 (-1)).sP p 1 (nI 0)).sP p 2 (nI 0)
def md10 (x : Int32) : Int32 := x - x / nI 10 * nI 10
def mRdS (s : Sx) (p : Nat) (k x : Int32) : Sx :=
  if s.H 0 = nI 3 then (if s.H 1 = nI 1 then s else s.sP p 3 (if s.P p 3 / nI 100 ≤ x / nI 100 then x else s.P p 3))
  else if s.H 0 = nI 4 then
    (if k = s.P p 5 - nI 1 ∨ k = s.H 4 - nI 1 then (s.sP p 4 (mx (s.P p 4) x)).sP p 3 (mx (s.P p 3) (mx (s.P p 4) x)) else s.sP p 4 (mx (s.P p 4) x))
  else if s.H 0 = nI 5 then s.sP p 4 (mx (s.P p 4) x)
  else s
def mRdT (s : Sx) (p : Nat) (k x : Int32) : Int32 :=
  if s.H 0 = nI 2 then (if x = nI 1 then k else if k = s.P p 5 - nI 1 then k else -1)
  else if s.H 0 = nI 3 then (if s.H 1 = nI 1 then md10 x else md10 ((mRdS s p k x).P p 3))
  else if s.H 0 = nI 4 then (if k = s.P p 5 - nI 1 then md10 ((mRdS s p k x).P p 3) else -1)
  else if s.H 0 = nI 5 then (if k = s.P p 5 - nI 1 then md10 ((mRdS s p k x).P p 4) else -1)
  else x
def mEr (s : Sx) (p : Nat) (ch : Int32) : Sx :=
  let s1 := (s.sP p 2 (nI 0)).sP p 1 (s.P p 1 + nI 1)
  if p < wrs s then s1.sP p 4 (mx (s.P p 4) (mGot s p ch))
  else if mRdT s1 p (s.P p 1) (mGot s p ch) = -1 then mRdS s1 p (s.P p 1) (mGot s p ch)
  else mEnd (mRdS s1 p (s.P p 1) (mGot s p ch)) p (mRdT s1 p (s.P p 1) (mGot s p ch))
def mEwA (s : Sx) (p : Nat) : Sx :=
  let s1 := s.sC (ix (mCel s p)) (mNm s p)
  let s2 := if s.H 0 = nI 5 then s1.sP p 3 (mSt s p) else s1
  (s2.sP p 2 (nI 0)).sP p 1 (s.P p 1 + nI 1)
def mEw (s : Sx) (p : Nat) : Sx :=
  if (mEwA s p).P p 1 = (mEwA s p).P p 5 then mEnd (mEwA s p) p (if p < wrs s then -1 else md10 ((mEwA s p).P p 3)) else mEwA s p
def mStA (s : Sx) (p n : Nat) (ch : Int32) : Sx :=
  if s.P p 5 = 0 then mEnd s p (-1) else if s.H 2 < nI 2 ∧ s.P p 2 = 0 then mBgA s p n else if mWt s p then mEw s p else mEr s p ch
def mStp (s : Sx) (p n : Nat) (ch : Int32) : Sx := (mStA s p n ch).sH 5 ((mStA s p n ch).H 5 + nI 1)
def mBeg (s : Sx) (p : Nat) (v : Int32) : Sx :=
  let a := ix (s.H 6)
  let s1 := ((((s.sA a 0 (nI p)).sA a 1 (if p < wrs s then v else -1)).sA a 2 (s.H 5)).sA a 3 (-1)).sA a 4 (-1)
  let s2 := (s1.sH 6 (s.H 6 + nI 1)).sH 5 (s.H 5 + nI 1)
  let s3 := ((((s2.sP p 0 (s.H 6)).sP p 1 (nI 0)).sP p 2 (nI 0)).sP p 4 (nI 0)).sP p 7 (nI 0)
  let s4 := s3.sP p 5 (if (s.H 0 = nI 1 ∧ p < wrs s ∧ s.P p 3 = v) ∧ s.H 1 = 0 then nI 0 else mAcc s p v)
  if p < wrs s then s4.sP p 3 (if s.H 0 = nI 1 then v else if s.H 0 = nI 3 ∨ s.H 0 = nI 4 then s.P p 3 + nI 1 else s.P p 3) else s4

