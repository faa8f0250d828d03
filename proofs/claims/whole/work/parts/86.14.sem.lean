/-! The memory system as a state of naturals, lines of words, and two rows of messages; what is done to it. -/
abbrev W4 : Type := Int32 × Int32 × Int32 × Int32
def w4 (w : W4) (j : Nat) : Int32 := if j = 0 then w.1 else if j = 1 then w.2.1 else if j = 2 then w.2.2.1 else w.2.2.2
def w4s (w : W4) (j : Nat) (v : Int32) : W4 := (if j = 0 then v else w.1, if j = 1 then v else w.2.1, if j = 2 then v else w.2.2.1, if j = 3 then v else w.2.2.2)
def w0 : W4 := (0, 0, 0, 0)
theorem w4_ext {a b : W4} (h : ∀ j, j < 4 → w4 a j = w4 b j) : a = b := by
  have h0 := h 0 (by omega); have h1 := h 1 (by omega); have h2 := h 2 (by omega); have h3 := h 3 (by omega)
  simp only [w4, if_pos, Nat.reduceEqDiff, if_false] at h0 h1 h2 h3
  obtain ⟨a0, a1, a2, a3⟩ := a; obtain ⟨b0, b1, b2, b3⟩ := b
  simp_all
theorem w4_w4s (w : W4) (j : Nat) (v : Int32) (i : Nat) (hi : i < 4) (hj : j < 4) : w4 (w4s w j v) i = if i = j then v else w4 w i := by
  have : i = 0 ∨ i = 1 ∨ i = 2 ∨ i = 3 := by omega
  rcases this with rfl | rfl | rfl | rfl <;> (have : j = 0 ∨ j = 1 ∨ j = 2 ∨ j = 3 := by omega) <;> rcases this with rfl | rfl | rfl | rfl <;> rfl
theorem w4_w0 (i : Nat) : w4 w0 i = 0 := by unfold w4 w0; split <;> (try split) <;> (try split) <;> rfl
/-- kind, from, to, line, filled, words -/
abbrev Msg : Type := Nat × Nat × Nat × Nat × Nat × W4
def mKi (x : Msg) : Nat := x.1
def mFr (x : Msg) : Nat := x.2.1
def mTo (x : Msg) : Nat := x.2.2.1
def mLi (x : Msg) : Nat := x.2.2.2.1
def mFi (x : Msg) : Nat := x.2.2.2.2.1
def mWo (x : Msg) : W4 := x.2.2.2.2.2
def mp (x : Msg) (j : Nat) : Int32 := if j = 0 then nI (mKi x) else if j = 1 then nI (mFr x) else if j = 2 then nI (mTo x) else if j = 3 then nI (mLi x) else if j = 4 then nI (mFi x) else w4 (mWo x) (j - 5)
def qp (x : Msg) (j : Nat) : Int32 := if j = 0 then nI (mLi x) else if j = 1 then nI (mKi x) else if j = 2 then nI (mFr x) else w4 (mWo x) (j - 3)
def x0 : Msg := (0, 0, 0, 0, 0, w0)
/-- -1 for 0, else one less -/
def pI (n : Nat) : Int32 := if n = 0 then nN else nI (n - 1)
theorem pI_0 : pI 0 = nN := rfl
theorem pI_s (n : Nat) : pI (n + 1) = nI n := rfl
theorem pI_eq {a b : Nat} (ha : a < 2 ^ 31) (hb : b < 2 ^ 31) : pI a = pI b ↔ a = b := by
  cases a with
  | zero =>
    cases b with
    | zero => simp
    | succ b => rw [pI_0, pI_s]; exact ⟨fun e => absurd e.symm (q_nN_ne (by omega)), fun e => by omega⟩
  | succ a =>
    cases b with
    | zero => rw [pI_0, pI_s]; exact ⟨fun e => absurd e (q_nN_ne (by omega)), fun e => by omega⟩
    | succ b => rw [pI_s, pI_s, q_eq (by omega) (by omega)]; omega
theorem pI_nN {a : Nat} (ha : a < 2 ^ 31) : pI a = nN ↔ a = 0 := pI_eq (b := 0) ha (by omega)
theorem pI_nI {a b : Nat} (ha : a < 2 ^ 31) (hb : b < 2 ^ 30) : pI a = nI b ↔ a = b + 1 := pI_eq (b := b + 1) ha (by omega)
/-- naturals by field and place; lines of words (0 as all of it has them, 1 in memory, 2 in the home's ways); the pool; what waits -/
abbrev St : Type := (Nat → Nat → Nat) × (Nat → Nat → W4) × List Msg × List Msg
def N (s : St) (F i : Nat) : Nat := s.1 F i
def Wda (s : St) (F i : Nat) : W4 := s.2.1 F i
def Pl (s : St) : List Msg := s.2.2.1
def Ql (s : St) : List Msg := s.2.2.2
def uN (s : St) (F i v : Nat) : St := (up2 s.1 F i v, s.2)
def uW (s : St) (F i : Nat) (w : W4) : St := (s.1, up2 s.2.1 F i w, s.2.2)
def uP (s : St) (p : List Msg) : St := (s.1, s.2.1, p, s.2.2.2)
def uQ (s : St) (q : List Msg) : St := (s.1, s.2.1, s.2.2.1, q)
theorem N_uN (s : St) (F i v G j : Nat) : N (uN s F i v) G j = if G = F ∧ j = i then v else N s G j := rfl
theorem N_uW (s : St) (F i : Nat) (w : W4) (G j : Nat) : N (uW s F i w) G j = N s G j := rfl
theorem N_uP (s : St) (p : List Msg) (G j : Nat) : N (uP s p) G j = N s G j := rfl
theorem N_uQ (s : St) (p : List Msg) (G j : Nat) : N (uQ s p) G j = N s G j := rfl
theorem W_uN (s : St) (F i v G j : Nat) : Wda (uN s F i v) G j = Wda s G j := rfl
theorem W_uW (s : St) (F i : Nat) (w : W4) (G j : Nat) : Wda (uW s F i w) G j = if G = F ∧ j = i then w else Wda s G j := rfl
theorem W_uP (s : St) (p : List Msg) (G j : Nat) : Wda (uP s p) G j = Wda s G j := rfl
theorem W_uQ (s : St) (p : List Msg) (G j : Nat) : Wda (uQ s p) G j = Wda s G j := rfl
theorem P_uN (s : St) (F i v : Nat) : Pl (uN s F i v) = Pl s := rfl
theorem P_uW (s : St) (F i : Nat) (w : W4) : Pl (uW s F i w) = Pl s := rfl
theorem P_uP (s : St) (p : List Msg) : Pl (uP s p) = p := rfl
theorem P_uQ (s : St) (p : List Msg) : Pl (uQ s p) = Pl s := rfl
theorem Q_uN (s : St) (F i v : Nat) : Ql (uN s F i v) = Ql s := rfl
theorem Q_uW (s : St) (F i : Nat) (w : W4) : Ql (uW s F i w) = Ql s := rfl
theorem Q_uP (s : St) (p : List Msg) : Ql (uP s p) = Ql s := rfl
theorem Q_uQ (s : St) (p : List Msg) : Ql (uQ s p) = p := rfl
/-! Fields: 0 sizes (cores, stores, sets, ways, the home's sets, ways); 1 line, 2 state, 3 clock of a cache's slot (32 c + slot); of the home's way (8 set + way): 4 line + 1, 5 changed, 6 owner + 1, 7 sharers, 8 about + 1, 9 kind, 10 due, 11 clock; of a core: 12 request + 1, 13 shelf + 1, 14 gone, 15 misses; 16 uses, 17 takings, 18 delivered, 19 changed, 20 recalls; what CoreHouse alone has: 21 its clock of a slot, 22 the clock of a cache, 23 its clock of a way, 24 the home's clock, 25 changes of a core; words 3 on a core's shelf, 4 in a slot. -/
def sSet (s : St) (c l : Nat) : Nat := 32 * c + N s 0 3 * (l % N s 0 2)
def sWay (s : St) (c l : Nat) : Option Nat := fst (fun k => decide (0 < N s 2 k) && decide (N s 1 k = l)) (sSet s c l) (N s 0 3)
def sFree (s : St) (c l : Nat) : Option Nat := fst (fun k => decide (N s 2 k = 0)) (sSet s c l) (N s 0 3)
def amin (f : Nat → Nat) : Nat → Nat → Nat → Nat
  | k, _, 0 => k
  | k, i, n + 1 => amin f (if f i < f k then i else k) (i + 1) n
def sLru (s : St) (c l : Nat) : Nat := amin (N s 3) (sSet s c l) (sSet s c l + 1) (N s 0 3 - 1)
/-- a slot is used: the clock of all, and (fields 21, 22) the clock of its own cache -/
def sUse (s : St) (k : Nat) : St := uN (uN (uN (uN s 16 0 (N s 16 0 + 1)) 3 k (N s 16 0 + 1)) 22 (k / 32) (N s 22 (k / 32) + 1)) 21 k (N s 22 (k / 32) + 1)
def sPost (s : St) (x : Msg) : St := uP s (Pl s ++ [x])
def sReq (s : St) (c l kd : Nat) : St := uN (uN (sPost s (kd, c, 16, l, 0, w0)) 12 c (l + 1)) 15 c (N s 15 c + 1)
/-- the slot's line goes to the shelf -/
def sShelve (s : St) (c k : Nat) : St := sPost (uW (uN (uN s 13 c (N s 1 k + 1)) 14 c 0) 3 c (Wda s 4 k)) (2, c, 16, N s 1 k, 1, Wda s 0 (N s 1 k))
def sMiss (s : St) (c l kd : Nat) : St :=
  if N s 12 c ≠ 0 ∨ N s 13 c = l + 1 then s
  else if sWay s c l ≠ none ∨ sFree s c l ≠ none then sReq s c l kd
  else if 1 < N s 2 (sLru s c l) then
    if N s 13 c ≠ 0 then s else sReq (uN (sShelve s c (sLru s c l)) 2 (sLru s c l) 0) c l kd
  else sReq (uN s 2 (sLru s c l) 0) c l kd
def hSet (s : St) (l : Nat) : Nat := 8 * (l % N s 0 4)
def hWay (s : St) (l : Nat) : Option Nat := fst (fun k => decide (N s 4 k = l + 1)) (hSet s l) (N s 0 5)
def sSend (s : St) (kd fr to l : Nat) : St := sPost s (kd, fr, to, l, 0, w0)
def sGive (s : St) (kd c l : Nat) : St := sPost s (kd, 16, c, l, 1, Wda s 0 l)
def sWb (s : St) (k : Nat) : St := if N s 5 k = 0 then s else uN (uW s 1 (N s 4 k - 1) (Wda s 2 k)) 5 k 0
def sFill (s : St) (k l : Nat) : St := uW (uN (uN (uN (uN (uN (uN s 4 k (l + 1)) 5 k 0) 6 k 0) 7 k 0) 8 k 0) 10 k 0) 2 k (Wda s 1 l)
/-- INV to those from o on (n cores) that have the line of way k, but not to core sp - 1 -/
def sCall (s : St) (k l sp o : Nat) : Nat → St
  | 0 => s
  | n + 1 => if o + 1 ≠ sp ∧ (N s 6 k = o + 1 ∨ (N s 7 k).testBit o = true) then sCall (uN (sSend s 3 16 o l) 10 k (N s 10 k + 1)) k l sp (o + 1) n else sCall s k l sp (o + 1) n
/-- of the ways about nothing the one taken longest ago -/
def bmin (f g : Nat → Nat) : Option Nat → Nat → Nat → Option Nat
  | b, _, 0 => b
  | b, i, n + 1 => bmin f g (if g i = 0 ∧ (b = none ∨ f i < f (b.getD 0)) then some i else b) (i + 1) n
def sEmpty (s : St) (l : Nat) : Option Nat := fst (fun k => decide (N s 4 k = 0)) (hSet s l) (N s 0 5)
def sOld (s : St) (l : Nat) : Option Nat := bmin (N s 11) (N s 8) none (hSet s l) (N s 0 5)
def sRecall (s : St) (k : Nat) : St := sCall (uN (uN (uN s 20 0 (N s 20 0 + 1)) 8 k 17) 10 k 0) k (N s 4 k - 1) 0 0 (N s 0 0)
def sFind (s : St) (l : Nat) : Option Nat × St :=
  match sEmpty s l with
  | some k => (some k, sFill s k l)
  | none => match sOld s l with
    | none => (none, s)
    | some k => if N s 6 k = 0 ∧ N s 7 k = 0 then (some k, sFill (sWb s k) k l) else (none, sRecall s k)
def sLend (s : St) (k : Nat) : St := sGive (uN (uN s 6 k (N s 8 k)) 7 k 0) 8 (N s 8 k - 1) (N s 4 k - 1)
def sShares (s : St) (k c l : Nat) : St :=
  if N s 6 k ≠ 0 then uN (sSend s 4 16 (N s 6 k - 1) l) 10 k 1
  else if N s 7 k = 0 then sGive (uN s 6 k (c + 1)) 7 c l
  else sGive (uN s 7 k (N s 7 k ||| 2 ^ c)) 6 c l
def sAbout (s : St) (k c kd : Nat) : St := uN (uN (uN (uN (uN (uN (uN s 17 0 (N s 17 0 + 1)) 11 k (N s 17 0 + 1)) 24 0 (N s 24 0 + 1)) 23 k (N s 24 0 + 1)) 8 k (c + 1)) 9 k kd) 10 k 0
def sServe (s : St) (k c l kd : Nat) : St :=
  if kd = 0 then sShares (sAbout s k c kd) k c l
  else if N (sCall (sAbout s k c kd) k l (c + 1) 0 (N s 0 0)) 10 k = 0 then sLend (sCall (sAbout s k c kd) k l (c + 1) 0 (N s 0 0)) k
  else sCall (sAbout s k c kd) k l (c + 1) 0 (N s 0 0)
def sPut (s : St) (c l : Nat) (w : W4) : St :=
  match hWay s l with
  | none => sSend s 9 16 c l
  | some k => if N s 6 k = c + 1 then sSend (uN (uN (uW s 2 k w) 5 k 1) 6 k 0) 9 16 c l else sSend s 9 16 c l
def hBusy (s : St) (l : Nat) : Prop := ∃ k, hWay s l = some k ∧ N s 8 k ≠ 0
/-- what a waiting one does: true if it was taken -/
def sTake (s : St) (x : Msg) : Bool × St :=
  match hWay s (mLi x) with
  | some k =>
    if N s 8 k ≠ 0 then (false, s)
    else if mKi x = 2 then (true, sPut s (mFr x) (mLi x) (mWo x))
    else (true, sServe s k (mFr x) (mLi x) (mKi x))
  | none =>
    if mKi x = 2 then (true, sPut s (mFr x) (mLi x) (mWo x))
    else match sFind s (mLi x) with
      | (some k, t) => (true, sServe t k (mFr x) (mLi x) (mKi x))
      | (none, t) => (false, t)
/-- the first that waits at a set -/
def qFirst (s : St) (set : Nat) : Option Nat := fst (fun i => decide (mLi ((Ql s).getD i x0) % N s 0 4 = set)) 0 (Ql s).length
def sGo (set : Nat) : Nat → St → St
  | 0, s => s
  | n + 1, s => match qFirst s set with
    | none => s
    | some i => if (sTake s ((Ql s).getD i x0)).1 = true then sGo set n (uQ (sTake s ((Ql s).getD i x0)).2 ((Ql s).eraseIdx i)) else (sTake s ((Ql s).getD i x0)).2
def sGoOn (s : St) (set : Nat) : St := sGo set ((Ql s).length + 1) s
def sAckW (s : St) (k : Nat) (x : Msg) : St := if mFi x = 1 then uN (uW s 2 k (mWo x)) 5 k 1 else s
def sAckD (s : St) (k : Nat) : St := uN s 10 k (N s 10 k - 1)
def sAckE (s : St) (k l : Nat) : St :=
  if 0 < N s 10 k then s
  else if N s 8 k = 17 then sGoOn (uN (uN (uN (uN (sWb s k) 4 k 0) 8 k 0) 6 k 0) 7 k 0) (l % N s 0 4)
  else if N s 9 k = 1 then sLend s k
  else sGive (uN (uN s 7 k (2 ^ (N s 6 k - 1) ||| 2 ^ (N s 8 k - 1))) 6 k 0) 6 (N s 8 k - 1) l
def sAck (s : St) (x : Msg) : St :=
  match hWay s (mLi x) with
  | none => s
  | some k => sAckE (sAckD (sAckW s k x) k) k (mLi x)
def sHome (s : St) (x : Msg) : St :=
  if mKi x = 5 then sAck s x
  else if mKi x = 10 then (match hWay s (mLi x) with
    | none => s
    | some k => sGoOn (uN s 8 k 0) (mLi x % N s 0 4))
  else sGoOn (uQ s (Ql s ++ [x])) (mLi x % N s 0 4)
def sHas (s : St) (c l : Nat) : Bool := (match sWay s c l with
  | some k => decide (1 < N s 2 k)
  | none => false) || (decide (N s 13 c = l + 1) && decide (N s 14 c = 0))
def sGone (s : St) (c l : Nat) : St := if N s 13 c = l + 1 then uN s 14 c 1 else s
def sAnswer (s : St) (c l : Nat) : St := sPost (sGone s c l) (if sHas s c l = true then (5, c, 16, l, 1, Wda s 0 l) else (5, c, 16, l, 0, w0))
def sState (s : St) (c l v : Nat) : St := match sWay s c l with
  | none => s
  | some k => uN s 2 k v
/-- where a line that comes goes: its slot, or a free one -/
def sAt (s : St) (c l : Nat) : Option Nat := match sWay s c l with
  | some k => some k
  | none => sFree s c l
def sFillC (s : St) (c l v : Nat) (w : W4) : St :=
  match sAt s c l with
  | none => s
  | some k => sSend (uN (sUse (uW (uN (uN s 1 k l) 2 k v) 4 k w) k) 12 c 0) 10 c 16 l
def sCore (s : St) (c : Nat) (x : Msg) : St :=
  if mKi x = 3 then sState (sAnswer s c (mLi x)) c (mLi x) 0
  else if mKi x = 4 then sState (sAnswer s c (mLi x)) c (mLi x) 1
  else if mKi x = 9 then uN (uN s 13 c 0) 14 c 0
  else sFillC s c (mLi x) (mKi x - 5) (mWo x)
def sOut (s : St) (i : Nat) : St := uN (uP s ((Pl s).eraseIdx i)) 18 0 (N s 18 0 + 1)
def sGet (s : St) (x : Msg) : St := if mTo x = 16 then sHome s x else sCore s (mTo x) x
def sBring (s : St) (i : Nat) : St := sGet (sOut s i) ((Pl s).getD i x0)
def sChange (s : St) (k : Nat) : St := uN (uN (uN (sUse s k) 2 k 3) 19 0 (N s 19 0 + 1)) 25 (k / 32) (N s 25 (k / 32) + 1)
/-- the word at place a (of all words) becomes v, in slot k too -/
def sWrite (s : St) (k a : Nat) (v : Int32) : St := uW (uW s 0 (a / 4) (w4s (Wda s 0 (a / 4)) (a % 4) v)) 4 k (w4s (Wda s 4 k) (a % 4) v)
