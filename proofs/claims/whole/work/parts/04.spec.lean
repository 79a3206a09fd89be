/-! what each method does, in the words of the state: the class's (s), the reference's (m) -/
abbrev kp : gN := (0, 0, 0)
abbrev pg (p : Nat) : gN := (2, p, 0)
abbrev wd (p : Nat) : gN := (3, p, 0)
abbrev hg : gN := (5, 0, 0)
abbrev gs (g : Nat) : gN := (6, g, 0)
abbrev pr (g v : Nat) : gN := (9, g, v)
abbrev rg (g v : Nat) : gN := (10, g, v)
abbrev mo : gN := (11, 0, 0)
abbrev ma (f : Nat) : gN := (12, f, 0)
abbrev mb (f : Nat) : gN := (13, f, 0)
abbrev ix (x : Int32) : Nat := x.toNatClampNeg
theorem ix_nI {j : Nat} (h : j < 2 ^ 31) : ix (nI j) = j := nI_clamp h
abbrev isP (x : Int32) : Prop := ¬ x < 0 ∧ ¬ 24 ≤ x
abbrev is4 (x : Int32) : Prop := ¬ x < 0 ∧ ¬ 4 ≤ x
theorem ix_lt {x : Int32} (N : Nat) (M : Int32) (hM : M = nI N) (hN : N < 2 ^ 31) (h0 : ¬ x < 0) (h : ¬ M ≤ x) : ∃ j, j < N ∧ x = nI j := by
  obtain ⟨j, hj, rfl⟩ := nI_of h0
  subst hM
  exact ⟨j, Nat.not_le.mp fun q => h ((nI_leI hN hj).mpr q), rfl⟩
theorem ix_le {x : Int32} (N : Nat) (M : Int32) (hM : M = nI N) (hN : N < 2 ^ 31) (h0 : ¬ x < 0) (h : x ≤ M) : ∃ j, j ≤ N ∧ x = nI j := by
  obtain ⟨j, hj, rfl⟩ := nI_of h0
  subst hM
  exact ⟨j, (nI_leI hj hN).mp h, rfl⟩
theorem isP_ix {x : Int32} (h : isP x) : ∃ j, j < 24 ∧ x = nI j := ix_lt 24 24 rfl (by decide) h.1 h.2
theorem is4_ix {x : Int32} (h : is4 x) : ∃ j, j < 4 ∧ x = nI j := ix_lt 4 4 rfl (by decide) h.1 h.2
theorem isP_nI {j : Nat} (h : j < 24) : isP (nI j) := ⟨nI_pos (by omega), fun q => absurd ((nI_leI (by decide) (by omega)).mp (show nI 24 ≤ nI j from q)) (by omega)⟩
theorem is4_nI {j : Nat} (h : j < 4) : is4 (nI j) := ⟨nI_pos (by omega), fun q => absurd ((nI_leI (by decide) (by omega)).mp (show nI 4 ≤ nI j from q)) (by omega)⟩
def anyB (f : Nat → Bool) : Nat → Bool
  | 0 => false
  | n + 1 => anyB f n || f n
def cntB (f : Nat → Bool) : Nat → Nat
  | 0 => 0
  | n + 1 => cntB f n + (if f n = true then 1 else 0)
theorem anyB_iff {f : Nat → Bool} {n : Nat} : anyB f n = true ↔ ∃ i, i < n ∧ f i = true := by
  induction n with
  | zero => simp [anyB]
  | succ n ih =>
    simp only [anyB, Bool.or_eq_true, ih]
    constructor
    · rintro (⟨i, h1, h2⟩ | h)
      · exact ⟨i, by omega, h2⟩
      · exact ⟨n, by omega, h⟩
    · rintro ⟨i, h1, h2⟩
      by_cases h : i = n
      · subst h; exact Or.inr h2
      · exact Or.inl ⟨i, by omega, h2⟩
theorem cntB_le (f : Nat → Bool) (n : Nat) : cntB f n ≤ n := by
  induction n with
  | zero => simp [cntB]
  | succ n ih =>
    simp only [cntB]
    split <;> omega
theorem cntB_congr {f g : Nat → Bool} {n : Nat} (h : ∀ i, i < n → f i = g i) : cntB f n = cntB g n := by
  induction n with
  | zero => rfl
  | succ n ih => simp only [cntB]; rw [ih (fun i hi => h i (by omega)), h n (by omega)]
-- the class
abbrev sOpen (I : gI) (p : Nat) : Prop := I (pg p) 1 = 0 ∨ ¬ I (pg p) 4 = 0
def sWipe (I : gI) (p : Nat) : gI := iu (iu (iu (iu I (wd p) 0 0) (wd p) 1 0) (wd p) 2 0) (wd p) 3 0
def sShare (I : gI) (p : Nat) (x : Int32) : gI := if sOpen (iu I (pg p) 4 x) p then iu I (pg p) 4 x else iu (iu I (pg p) 4 x) (pg p) 5 0
def sOwn (I : gI) (p : Nat) (x : Int32) : gI := sShare (iu (iu I (pg p) 1 x) (pg p) 3 0) p 0
def sKeep (I : gI) (p : Nat) (g : Int32) : gI := iu (sOwn (sWipe I p) p 7) (pg p) 3 g
def sLose1 (I : gI) (p : Nat) (g : Int32) : gI := if I (pg p) 1 = g ∨ I (pg p) 3 = g then sOwn I p 8 else I
def sLose (I : gI) (p : Nat) (g : Int32) : gI := if sLose1 I p g (pg p) 2 = g then iu (sLose1 I p g) (pg p) 2 0 else sLose1 I p g
def sLoseN (I : gI) (g : Int32) : Nat → gI
  | 0 => I
  | n + 1 => sLose (sLoseN I g n) n g
abbrev sFlt (I : gI) : gI := iu I kp 4 (I kp 4 + 1)
def sRch (I : gI) (p : Nat) : gI := if I (pg p) 5 = 0 then iu (sFlt I) (pg p) 5 (bz (sOpen (sFlt I) p)) else I
abbrev sRchB (I : gI) (p : Nat) : Prop := ¬ I (pg p) 5 = 0 ∨ sOpen (sFlt I) p
abbrev sFree (I : gI) (x : Int32) : Prop := isP x ∧ I (pg (ix x)) 1 = 0 ∧ I (pg (ix x)) 2 = 0
def sLiv (I : gI) (k : Nat) (x : Int32) : Option Nat := if x < 1 ∨ I kp 3 < x ∨ 6 < x then none else if ix (x - 1) < k ∧ ¬ I (gs (ix (x - 1))) 3 = 0 then some (ix (x - 1)) else none
def sNd (P : gP) (g t z : Nat) : Bool := anyB (fun i => (P g (t * z + i)).isSome) z
def sCnt (P : gP) (g z : Nat) : Nat := cntB (fun t => sNd P g t z) (64 / z)
def sTab (P : gP) (g : Nat) : Int32 := nI (sCnt P g 16) + nI (sCnt P g 4)
def sPool (I : gI) (P : gP) (g : Nat) : Int32 := I (gs g) 5 - sTab P g
def sNew (P : gP) (g a : Nat) : Int32 := (if sNd P g (a / 16) 16 = true then 0 else 1) + (if sNd P g (a / 4) 4 = true then 0 else 1)
def sRef (I : gI) (P : gP) (g : Nat) (x y : Int32) : Int32 := if ¬ sFree I x then -2 else if y < 0 ∨ 64 ≤ y ∨ ¬ P g (ix y) = none then -3 else if sPool I P g < sNew P g (ix y) then -4 else 0
def sRem (P : gP) (g p : Nat) : gP := fun g' a => if g' = g ∧ a < 64 ∧ P g' a = some p then none else P g' a
def sFault (I : gI) (g v : Nat) (x : Int32) : gI := iu I (pr g v) 2 x
def sMove (I : gI) (P : gP) (g v : Nat) (b : Prop) [Decidable b] (a t : Nat) : Int32 × gI := match P g (t / 4) with
  | none => (1, sFault I g v (nI t))
  | some q => if b then (0, iu I (rg g v) a (I (wd q) (t % 4))) else (0, iu I (wd q) (t % 4) (I (rg g v) a))
def sChg (I : gI) (P : gP) (g a : Nat) (x : Int32) : Int32 × gI := match P g a with
  | none => (0, I)
  | some q => if ¬ I (pg q) 1 = I (gs g) 0 ∨ I (pg q) 4 = x then (0, I) else (1, sShare I q x)
abbrev wA (w : Int32) : Nat := ix (w >>> ((4 : Int32) &&& 31) &&& 3)
abbrev wB (w : Int32) : Nat := ix (w >>> ((6 : Int32) &&& 31) &&& 3)
abbrev wI (w : Int32) : Int32 := w >>> ((8 : Int32) &&& 31)
abbrev sNext (I : gI) (g v : Nat) : Int32 := (I (pr g v) 1 + 1) &&& 255
/-- perform: the exit, the state -/
def sPerf (I : gI) (P : gP) (g v : Nat) (w : Int32) : Int32 × gI :=
  if w &&& 15 = 0 then (4, iu I (pr g v) 1 (sNext I g v))
  else if w &&& 15 = 1 then (0, iu (iu I (rg g v) (wA w) (wI w)) (pr g v) 1 (sNext I g v))
  else if w &&& 15 = 2 then (0, iu (iu I (rg g v) (wA w) (I (rg g v) (wA w) + I (rg g v) (wB w))) (pr g v) 1 (sNext I g v))
  else if w &&& 15 = 3 ∨ w &&& 15 = 4 then
    (if (sMove I P g v (w &&& 15 = 3) (wA w) (ix ((I (rg g v) (wB w) + wI w) &&& 255))).1 = 1 then sMove I P g v (w &&& 15 = 3) (wA w) (ix ((I (rg g v) (wB w) + wI w) &&& 255))
     else (0, iu (sMove I P g v (w &&& 15 = 3) (wA w) (ix ((I (rg g v) (wB w) + wI w) &&& 255))).2 (pr g v) 1 (sNext I g v)))
  else if w &&& 15 = 5 then (0, iu I (pr g v) 1 (if I (rg g v) (wA w) = 0 then sNext I g v else wI w &&& 255))
  else if w &&& 15 = 6 ∨ w &&& 15 = 7 then
    (0, iu (iu (sChg I P g (ix (I (rg g v) (wA w) &&& 63)) (bz (w &&& 15 = 6))).2 (rg g v) (wA w) (sChg I P g (ix (I (rg g v) (wA w) &&& 63)) (bz (w &&& 15 = 6))).1) (pr g v) 1 (sNext I g v))
  else if w &&& 15 = 8 then (2, iu (iu I (pr g v) 2 (I (rg g v) (wA w))) (pr g v) 1 (sNext I g v))
  else if w &&& 15 = 9 then (3, iu (iu I (pr g v) 3 (nI (wA w))) (pr g v) 1 (sNext I g v))
  else if w &&& 15 = 10 then (0, iu (iu I (rg g v) (wA w) (I (rg g v) (wA w) ^^^ I (rg g v) (wB w))) (pr g v) 1 (sNext I g v))
  else (5, I)
def sStep (P : gP) (g v : Nat) (I : gI) : Int32 × gI := match P g (ix (I (pr g v) 1) / 4) with
  | none => (1, sFault I g v (I (pr g v) 1))
  | some q => sPerf I P g v (I (wd q) (ix (I (pr g v) 1) % 4))
def stepsN (st : gI → Int32 × gI) : Nat → gI → Int32 × gI
  | 0, I => (0, I)
  | n + 1, I => if (st I).1 = 0 then stepsN st n (st I).2 else st I
def sAns (I : gI) (g v : Nat) (x : Int32) : gI := if I (pr g v) 3 = -1 then I else iu (iu I (rg g v) (ix (I (pr g v) 3)) x) (pr g v) 3 (-1)
def sMk (P : gP) (g v : Nat) (I : gI) (n : Nat) : Int32 × gI := stepsN (sStep P g v) n (iu I (pr g v) 2 0)
-- the public calls: answer and state
def cRead (I : gI) (x y : Int32) : Int64 × gI := if isP x ∧ is4 y then (if sRchB I (ix x) then ((sRch I (ix x) (wd (ix x)) (ix y)).toInt64, sRch I (ix x)) else (1099511627776, sRch I (ix x))) else (1099511627776, I)
def cWrite (I : gI) (x y z : Int32) : Int32 × gI := if isP x ∧ is4 y then (if sRchB I (ix x) then (1, iu (sRch I (ix x)) (wd (ix x)) (ix y) z) else (0, sRch I (ix x))) else (0, I)
def cFeed (I : gI) (k : Nat) (P : gP) (a x : Int32) : Int32 × gI := match sLiv I k a with
  | none => (-1, I)
  | some g => if sFree I x then (sPool (iu (sKeep I (ix x) a) (gs g) 5 (sKeep I (ix x) a (gs g) 5 + 1)) P g, iu (sKeep I (ix x) a) (gs g) 5 (sKeep I (ix x) a (gs g) 5 + 1)) else (-2, I)
def cDonate (I : gI) (k : Nat) (P : gP) (a x y : Int32) : Int32 × gI × gP := match sLiv I k a with
  | none => (-1, I, P)
  | some g => if sRef I P g x y = 0 then (0, sOwn (if I (gs g) 4 = 0 then I else sWipe I (ix x)) (ix x) a, pu P g (ix y) (some (ix x))) else (sRef I P g x y, I, P)
def cLend (I : gI) (k : Nat) (P : gP) (a x y : Int32) : Int32 × gI × gP := match sLiv I k a with
  | none => (-1, I, P)
  | some g => if sRef I P g x y = 0 then (0, iu I (pg (ix x)) 2 a, pu P g (ix y) (some (ix x))) else (sRef I P g x y, I, P)
def cTake (I : gI) (k : Nat) (P : gP) (x : Int32) : Int32 × gI × gP := if isP x ∧ ¬ I (pg (ix x)) 2 = 0 then (1, iu I (pg (ix x)) 2 0, match sLiv I k (I (pg (ix x)) 2) with | none => P | some g => sRem P g (ix x)) else (0, I, P)
def cDestroy (I : gI) (k : Nat) (LG : Option Nat) (a : Int32) : Int32 × gI := match sLiv I k a with
  | none => (0, I)
  | some g => if LG = some g then (0, I) else (1, sLoseN (iu I (gs g) 3 0) a 24)
def cReclaim (I : gI) (x : Int32) : Int32 × gI := if isP x ∧ I (pg (ix x)) 1 = 8 then (1, sOwn (sWipe I (ix x)) (ix x) 0) else (0, I)
def cLoad (I : gI) (k : Nat) (LG : Option Nat) (LP : Option (Nat × Nat)) (a v : Int32) : Int32 × gI × Option Nat × Option (Nat × Nat) := match LP with
  | some _ => (0, I, LG, LP)
  | none => match sLiv I k a with
    | none => (0, I, LG, LP)
    | some g => if v < 0 ∨ 2 ≤ v then (0, I, LG, LP) else (1, iu I (gs g) 4 1, some g, some (g, ix v))
def cRun (I : gI) (P : gP) (LP : Option (Nat × Nat)) (n x : Int32) : Int32 × gI := match LP with
  | some q => if n < 1 ∨ 64 < n then (-1, I) else ((sMk P q.1 q.2 (sAns I q.1 q.2 x) (ix n)).1, iu (sMk P q.1 q.2 (sAns I q.1 q.2 x) (ix n)).2 kp 5 ((sMk P q.1 q.2 (sAns I q.1 q.2 x) (ix n)).2 (pr q.1 q.2) 2))
  | none => (-1, I)
def cSet (I : gI) (LP : Option (Nat × Nat)) (x y : Int32) : Int32 × gI := if is4 x ∧ LP = none then (1, iu I hg (ix x) y) else (0, I)
def cReg (I : gI) (LP : Option (Nat × Nat)) (x : Int32) : Int32 := if is4 x ∧ LP = none then I hg (ix x) else 0
def cOwner (I : gI) (x : Int32) : Int32 := if isP x then I (pg (ix x)) 1 else -1
def cState (I : gI) (x : Int32) : Int32 := if isP x then (if ¬ I (pg (ix x)) 4 = 0 ∨ ¬ I (pg (ix x)) 2 = 0 then 1 else 0) + (if I (pg (ix x)) 5 = 0 then 0 else 2) else -1
def cPool (I : gI) (k : Nat) (P : gP) (a : Int32) : Int32 := match sLiv I k a with
  | none => -1
  | some g => sPool I P g
def cTab (I : gI) (k : Nat) (P : gP) (a : Int32) : Int32 := match sLiv I k a with
  | none => -1
  | some g => sTab P g
-- the reference
abbrev mMay (J : gI) (p : Nat) : Prop := J (ma 1) p = 0 ∨ ¬ J (mb 5) p = 0
abbrev mFree (J : gI) (x : Int32) : Prop := isP x ∧ J (ma 1) (ix x) = 0 ∧ J (ma 3) (ix x) = 0
abbrev mGst (J : gI) (a : Int32) : Prop := ¬ a < 1 ∧ ¬ J mo 7 < a ∧ ¬ J (mb 8) (ix a) = 0
def mWipe (J : gI) (p : Nat) : gI := iu (iu (iu (iu J (ma 0) (4 * p) 0) (ma 0) (4 * p + 1) 0) (ma 0) (4 * p + 2) 0) (ma 0) (4 * p + 3) 0
def mLook (J : gI) (p : Nat) : gI := iu J (mb 6) p (bz (¬ J (mb 6) p = 0 ∧ mMay J p))
def mHolder (J : gI) (p : Nat) : Int32 := if J (ma 3) p ≤ 0 then (if J (ma 1) p < 1 ∨ 6 < J (ma 1) p then 0 else J (ma 1) p) else J (ma 3) p
abbrev mIs (J : gI) (g a : Int32) (p : Nat) : Prop := mHolder J p = g ∧ J (ma 4) p = a
def findF (f : Nat → Bool) : Nat → Nat → Int32
  | 0, _ => -1
  | n + 1, i => if f i = true then nI i else findF f n (i + 1)
def mHeld (J : gI) (g a : Int32) : Int32 := findF (fun p => decide (mIs J g a p)) 24 0
abbrev mBlk (J : gI) (g : Int32) (z : Nat) (i p : Nat) : Prop := mHolder J p = g ∧ J (ma 4) p / nI z = nI i
def mSome (J : gI) (g e : Int32) (z i n : Nat) : Bool := decide (¬ e < 0 ∧ e / nI z = nI i) || anyB (fun p => decide (mBlk J g z i p)) n
def mCnt1 (J : gI) (g e : Int32) (z : Nat) : Nat := cntB (fun i => mSome J g e z i 24) (64 / z)
def mCnt (J : gI) (g e : Int32) : Int32 := nI (mCnt1 J g e 4 + mCnt1 J g e 16)
def mKept (J : gI) (g : Int32) : Nat := cntB (fun p => decide (J (ma 1) p = 7 ∧ J (ma 2) p = g)) 24
def mRest (J : gI) (g : Int32) : Int32 := nI (mKept J g) - 1 - mCnt J g (-1)
def mTch (J : gI) (p : Nat) : gI := if J (mb 6) p = 0 then iu (iu J mo 16 (J mo 16 + 1)) (mb 6) p (bz (mMay (iu J mo 16 (J mo 16 + 1)) p)) else J
abbrev mOk (x y : Int32) : Prop := isP x ∧ ¬ y < 0 ∧ y ≤ 3
def mTouch (J : gI) (x y : Int32) : Int32 × gI := if mOk x y then (mTch J (ix x) (mb 6) (ix x), mTch J (ix x)) else (0, J)
def mRead (J : gI) (x y : Int32) : Int64 × gI := if (mTouch J x y).1 = 0 then (1099511627776, (mTouch J x y).2) else (((mTouch J x y).2 (ma 0) (4 * ix x + ix y)).toInt64, (mTouch J x y).2)
def mWrite (J : gI) (x y z : Int32) : Int32 × gI := if (mTouch J x y).1 = 0 then mTouch J x y else ((mTouch J x y).1, iu (mTouch J x y).2 (ma 0) (4 * ix x + ix y) z)
def mKeep (J : gI) (p : Nat) (g : Int32) : gI := mLook (mWipe (iu (iu J (ma 1) p 7) (ma 2) p g) p) p
def mCreate (J : gI) (x : Int32) : Int32 × gI := if ¬ mFree J x then (-1, J) else if ¬ J mo 7 < 6 then (-2, J) else (J mo 7 + 1, mKeep (iu (iu J mo 7 (J mo 7 + 1)) (mb 8) (ix (J mo 7 + 1)) 1) (ix x) (J mo 7 + 1))
def mFeed (J : gI) (a x : Int32) : Int32 × gI := if ¬ mGst J a then (-1, J) else if ¬ mFree J x then (-2, J) else (mRest (mKeep J (ix x) a) a, mKeep J (ix x) a)
def mRef (J : gI) (a x y : Int32) : Int32 := if ¬ mGst J a then -1 else if ¬ mFree J x then -2 else if y < 0 ∨ 63 < y ∨ ¬ mHeld J a y < 0 then -3 else if mCnt J a y - mCnt J a (-1) ≤ mRest J a then 0 else -4
def mDon1 (J : gI) (a : Int32) (p : Nat) (y : Int32) : gI := iu (iu (iu J (ma 1) p a) (ma 4) p y) (mb 5) p 0
def mDonate (J : gI) (a x y : Int32) : Int32 × gI := if mRef J a x y < 0 then (mRef J a x y, J) else (0, mLook (if mDon1 J a (ix x) y (mb 9) (ix a) = 0 then mDon1 J a (ix x) y else mWipe (mDon1 J a (ix x) y) (ix x)) (ix x))
def mLend (J : gI) (a x y : Int32) : Int32 × gI := (mRef J a x y, if mRef J a x y = 0 then iu (iu J (ma 3) (ix x) a) (ma 4) (ix x) y else J)
def mTake (J : gI) (x : Int32) : Int32 × gI := if isP x ∧ ¬ J (ma 3) (ix x) = 0 then (1, iu J (ma 3) (ix x) 0) else (0, J)
def mLose1 (J : gI) (a : Int32) (p : Nat) : gI := if J (ma 1) p = a ∨ (J (ma 1) p = 7 ∧ J (ma 2) p = a) then mLook (iu (iu J (ma 1) p 8) (mb 5) p 0) p else J
def mLose (J : gI) (a : Int32) (p : Nat) : gI := iu (mLose1 J a p) (ma 3) p (if mLose1 J a p (ma 3) p = a then 0 else mLose1 J a p (ma 3) p)
def mLoseN (J : gI) (a : Int32) : Nat → gI
  | 0 => J
  | n + 1 => mLose (mLoseN J a n) a n
def mDestroy (J : gI) (a : Int32) : Int32 × gI := if ¬ mGst J a ∨ (¬ J mo 13 < 0 ∧ J mo 13 / 2 = a) then (0, J) else (1, mLoseN (iu J (mb 8) (ix a) 0) a 24)
def mReclaim (J : gI) (x : Int32) : Int32 × gI := if isP x ∧ J (ma 1) (ix x) = 8 then (1, mWipe (iu J (ma 1) (ix x) 0) (ix x)) else (0, J)
def mLoad (J : gI) (a v : Int32) : Int32 × gI := if 0 ≤ J mo 13 ∨ ¬ mGst J a ∨ v < 0 ∨ ¬ v ≤ 1 then (0, J) else (1, iu (iu J mo 13 (2 * a + v)) (mb 9) (ix a) 1)
def mPut (J : gI) : Int32 × gI := (if J mo 13 < 0 then 0 else 1, iu J mo 13 (-1))
/-- word: where the word at an address lies, or the fault's info -/
def mWord (J : gI) (g : Int32) (t : Nat) : Int32 × gI := if mHeld J g (nI (t / 4)) < 0 then (-1, iu J mo 14 (nI t)) else (4 * mHeld J g (nI (t / 4)) + nI (t % 4), J)
def mTurn (J : gI) (g : Int32) (t : Nat) (x : Int32) : Int32 × gI := if mHeld J g (nI t) < 0 ∨ ¬ J (ma 1) (ix (mHeld J g (nI t))) = g ∨ J (mb 5) (ix (mHeld J g (nI t))) = x then (0, J) else (1, mLook (iu J (mb 5) (ix (mHeld J g (nI t))) x) (ix (mHeld J g (nI t))))
def mEnd (J : gI) (c : Nat) (w t : Int32) : gI := iu (iu (iu J (ma 11) c t) mo 14 (if w &&& 15 = 8 then J (ma 10) (4 * c + wA w) else 0)) (ma 12) c (if w &&& 15 = 9 then 1 + nI (wA w) else 0)
abbrev mNext (J : gI) (c : Nat) : Int32 := (J (ma 11) c + 1) &&& 255
def mPerf (J : gI) (c : Nat) (w : Int32) : Int32 × gI :=
  if w &&& 15 = 0 then (4, mEnd J c w (mNext J c))
  else if w &&& 15 = 1 then (0, mEnd (iu J (ma 10) (4 * c + wA w) (wI w)) c w (mNext J c))
  else if w &&& 15 = 2 then (0, mEnd (iu J (ma 10) (4 * c + wA w) (J (ma 10) (4 * c + wA w) + J (ma 10) (4 * c + wB w))) c w (mNext J c))
  else if w &&& 15 = 3 then (if (mWord J (nI (c / 2)) (ix ((J (ma 10) (4 * c + wB w) + wI w) &&& 255))).1 < 0 then (1, (mWord J (nI (c / 2)) (ix ((J (ma 10) (4 * c + wB w) + wI w) &&& 255))).2)
    else (0, mEnd (iu J (ma 10) (4 * c + wA w) (J (ma 0) (ix (mWord J (nI (c / 2)) (ix ((J (ma 10) (4 * c + wB w) + wI w) &&& 255))).1))) c w (mNext J c)))
  else if w &&& 15 = 4 then (if (mWord J (nI (c / 2)) (ix ((J (ma 10) (4 * c + wB w) + wI w) &&& 255))).1 < 0 then (1, (mWord J (nI (c / 2)) (ix ((J (ma 10) (4 * c + wB w) + wI w) &&& 255))).2)
    else (0, mEnd (iu J (ma 0) (ix (mWord J (nI (c / 2)) (ix ((J (ma 10) (4 * c + wB w) + wI w) &&& 255))).1) (J (ma 10) (4 * c + wA w))) c w (mNext J c)))
  else if w &&& 15 = 5 then (0, mEnd J c w (if J (ma 10) (4 * c + wA w) = 0 then mNext J c else wI w &&& 255))
  else if w &&& 15 = 6 ∨ w &&& 15 = 7 then (0, mEnd (iu (mTurn J (nI (c / 2)) (ix (J (ma 10) (4 * c + wA w) &&& 63)) (bz (w &&& 15 = 6))).2 (ma 10) (4 * c + wA w) (mTurn J (nI (c / 2)) (ix (J (ma 10) (4 * c + wA w) &&& 63)) (bz (w &&& 15 = 6))).1) c w (mNext J c))
  else if w &&& 15 = 8 then (2, mEnd J c w (mNext J c))
  else if w &&& 15 = 9 then (3, mEnd J c w (mNext J c))
  else if w &&& 15 = 10 then (0, mEnd (iu J (ma 10) (4 * c + wA w) (J (ma 10) (4 * c + wA w) ^^^ J (ma 10) (4 * c + wB w))) c w (mNext J c))
  else (5, J)
def mStep (c : Nat) (J : gI) : Int32 × gI := if (mWord J (nI (c / 2)) (ix (J (ma 11) c))).1 < 0 then (1, (mWord J (nI (c / 2)) (ix (J (ma 11) c))).2) else mPerf J c (J (ma 0) (ix (mWord J (nI (c / 2)) (ix (J (ma 11) c))).1))
def mAns (J : gI) (c : Nat) (x : Int32) : gI := if J (ma 12) c ≤ 0 then J else iu (iu J (ma 10) (4 * c + ix (J (ma 12) c) - 1) x) (ma 12) c 0
def mRun (J : gI) (n x : Int32) : Int32 × gI := if J mo 13 < 0 ∨ n < 1 ∨ 64 < n then (-1, J) else stepsN (mStep (ix (J mo 13))) (ix n) (iu (mAns J (ix (J mo 13)) x) mo 14 0)
def mSet (J : gI) (x y : Int32) : Int32 × gI := if x < 0 ∨ 3 < x ∨ ¬ J mo 13 < 0 then (0, J) else (1, iu J (ma 15) (ix x) y)
def mReg (J : gI) (x : Int32) : Int32 := if x < 0 ∨ 3 < x ∨ ¬ J mo 13 < 0 then 0 else J (ma 15) (ix x)
def mOwner (J : gI) (x : Int32) : Int32 := if isP x then J (ma 1) (ix x) else -1
def mState (J : gI) (x : Int32) : Int32 := if isP x then (if 0 < J (ma 3) (ix x) ∨ ¬ J (mb 5) (ix x) = 0 then 1 else 0) + (if J (mb 6) (ix x) = 0 then 0 else 2) else -1
def mPool (J : gI) (a : Int32) : Int32 := if mGst J a then mRest J a else -1
def mTab (J : gI) (a : Int32) : Int32 := if mGst J a then mCnt J a (-1) else -1
