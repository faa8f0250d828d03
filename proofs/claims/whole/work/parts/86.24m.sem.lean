/-! What a text tells: items, labels, parts. -/
def tForm : List Nat := [0, 0, 0, 0, 0, 0, 0, 0, 0, 0, 1, 1, 1, 1, 1, 1, 2, 2, 2, 1, 1, 1, 1, 1, 3, 3, 3, 4, 4, 4, 4, 4, 4, 5, 5, 6, 1, 0, 0, 0, 0, 0, 0, 0, 0, 0, 0, 0, 0, 0, 0, 0, 0, 6, 0, 4, 4, 7, 8, 9, 10]
theorem form_n : ∀ op, op < 61 → mForm.getD op 0 = nI (tForm.getD op 0) ∧ tForm.getD op 0 ≤ 10 := by decide +kernel
/-- what a number puts into a word -/
def putV (hw : Nat) (x : Int32) : Int32 :=
  if hw = 1 then (((x >>> ((5 : Int32) &&& 31)) <<< ((25 : Int32) &&& 31)) ||| ((x &&& (31 : Int32)) <<< ((7 : Int32) &&& 31)))
  else if hw = 2 then ((((((x >>> ((12 : Int32) &&& 31)) &&& (1 : Int32)) <<< ((31 : Int32) &&& 31)) ||| (((x >>> ((5 : Int32) &&& 31)) &&& (63 : Int32)) <<< ((25 : Int32) &&& 31))) ||| (((x >>> ((1 : Int32) &&& 31)) &&& (15 : Int32)) <<< ((8 : Int32) &&& 31))) ||| (((x >>> ((11 : Int32) &&& 31)) &&& (1 : Int32)) <<< ((7 : Int32) &&& 31)))
  else if hw = 3 then (x <<< ((12 : Int32) &&& 31))
  else if hw = 4 then ((((((x >>> ((20 : Int32) &&& 31)) &&& (1 : Int32)) <<< ((31 : Int32) &&& 31)) ||| (((x >>> ((1 : Int32) &&& 31)) &&& (1023 : Int32)) <<< ((21 : Int32) &&& 31))) ||| (((x >>> ((11 : Int32) &&& 31)) &&& (1 : Int32)) <<< ((20 : Int32) &&& 31))) ||| (((x >>> ((12 : Int32) &&& 31)) &&& (255 : Int32)) <<< ((12 : Int32) &&& 31)))
  else if hw = 5 then x
  else if hw = 7 then ((x - ((x <<< ((20 : Int32) &&& 31)) >>> ((20 : Int32) &&& 31))) &&& (-4096 : Int32))
  else (x <<< ((20 : Int32) &&& 31))
theorem r_put (m : AH) {hw : Nat} (hh : hw ≤ 8) (v : Int64) : f_X11_put m (nI hw) v = some (putV hw v.toInt32) := by
  unfold f_X11_put
  rw [y_lt]
  have : hw = 0 ∨ hw = 1 ∨ hw = 2 ∨ hw = 3 ∨ hw = 4 ∨ hw = 5 ∨ hw = 6 ∨ hw = 7 ∨ hw = 8 := by omega
  rcases this with rfl | rfl | rfl | rfl | rfl | rfl | rfl | rfl | rfl <;> rfl
/-- how an item's number goes in, in the reference -/
def hwI (op : Nat) : Nat := if tForm.getD op 0 = 7 then 0 else hnO (tHow.getD op 0) op
/-- how many words -/
def wds (op nk : Nat) (z : Int64) : Nat := if tForm.getD op 0 = 9 ∨ tForm.getD op 0 = 10 then 0 else if tForm.getD op 0 = 7 ∧ ¬ (nk = 1 ∧ fitB 1 z = true) then 2 else 1
theorem wds_le (op nk : Nat) (z : Int64) : wds op nk z ≤ 2 := by unfold wds; split; omega; split <;> omega
abbrev Gh := Nat → Nat → Nat
/-- the parts of an item -/
def PT (h m : AH) (g : Gh) (k : Nat) : Prop :=
  (wds (g 0 k) (g 3 k) (hL h 11 k) = 1 → hI m 233 (g 7 k) = nI (g 2 k) ∧ (g 3 k = 2 → hI m 235 (g 7 k) = nI (hwI (g 0 k)) ∧ hL m 236 (g 7 k) = hL h 11 k ∧ hI m 237 (g 7 k) = nI (g 4 k) ∧ hI m 234 (g 7 k) = hI h 8 k) ∧
    (g 3 k ≠ 2 → hI m 235 (g 7 k) = (-1 : Int32) ∧ hI m 234 (g 7 k) = if g 3 k = 1 ∧ tForm.getD (g 0 k) 0 ≠ 0 then hI h 8 k ||| putV (hwI (g 0 k)) (hL h 11 k).toInt32 else hI h 8 k)) ∧
  (wds (g 0 k) (g 3 k) (hL h 11 k) = 2 → hI m 233 (g 7 k) = nI (g 2 k) ∧ hI m 233 (g 7 k + 1) = nI (g 2 k + 4) ∧
    (g 3 k = 2 → hI m 235 (g 7 k) = (7 : Int32) ∧ hI m 235 (g 7 k + 1) = (8 : Int32) ∧ hL m 236 (g 7 k) = hL h 11 k ∧ hL m 236 (g 7 k + 1) = hL h 11 k ∧ hI m 237 (g 7 k) = nI (g 4 k) ∧ hI m 237 (g 7 k + 1) = nI (g 4 k) ∧ hI m 234 (g 7 k) = (55 : Int32) ||| (hI h 8 k &&& (3968 : Int32)) ∧ hI m 234 (g 7 k + 1) = ((19 : Int32) ||| (hI h 8 k &&& (3968 : Int32))) ||| ((hI h 8 k &&& (3968 : Int32)) <<< ((8 : Int32) &&& 31))) ∧
    (g 3 k ≠ 2 → hI m 235 (g 7 k) = (-1 : Int32) ∧ hI m 235 (g 7 k + 1) = (-1 : Int32) ∧ hI m 234 (g 7 k) = ((55 : Int32) ||| (hI h 8 k &&& (3968 : Int32))) ||| putV 7 (hL h 11 k).toInt32 ∧ hI m 234 (g 7 k + 1) = (((19 : Int32) ||| (hI h 8 k &&& (3968 : Int32))) ||| ((hI h 8 k &&& (3968 : Int32)) <<< ((8 : Int32) &&& 31))) ||| putV 8 (hL h 11 k).toInt32))
def IT (h m : AH) (g : Gh) (k : Nat) : Prop :=
  (g 0 k < 61 ∧ hI h 5 k = nI (g 0 k)) ∧ (hI h 6 k = nI (g 1 k) ∧ g 1 k ≤ 1500) ∧ (hI h 7 k = nI (g 2 k) ∧ g 2 k % 4 = 0 ∧ g 2 k ≤ 20000) ∧
  (hI h 9 k = nI (g 3 k) ∧ g 3 k ≤ 2 ∧ g 4 k ≤ 1500 ∧ (g 3 k ≠ 0 → hI h 10 k = nI (g 4 k)) ∧ (g 3 k = 0 ↔ nNu (opl (tHow.getD (g 0 k) 0)) = 0) ∧ (tForm.getD (g 0 k) 0 = 9 ∨ tForm.getD (g 0 k) 0 = 10 → g 3 k = 1) ∧ (tForm.getD (g 0 k) 0 = 8 → hI h 8 k = 0)) ∧ g 7 (k + 1) = g 7 k + wds (g 0 k) (g 3 k) (hL h 11 k) ∧ PT h m g k
/-- faults of an item that need no labels -/
def KA (h : AH) (g : Gh) (k : Nat) : Nat := min (if wds (g 0 k) (g 3 k) (hL h 11 k) ≠ 0 ∧ 8192 < g 2 k + 4 * wds (g 0 k) (g 3 k) (hL h 11 k) then 4 * g 1 k + 3 else 100000) (if g 3 k = 1 ∧ fitB (tForm.getD (g 0 k) 0) (hL h 11 k) = false then 4 * g 4 k + 3 else 100000)
def mn (f : Nat → Nat) : Nat → Nat
  | 0 => 100000
  | n + 1 => min (mn f n) (f n)
theorem mn_congr {f g : Nat → Nat} : ∀ n, (∀ k, k < n → f k = g k) → mn f n = mn g n
  | 0, _ => rfl
  | n + 1, h => by
    show min (mn f n) (f n) = min (mn g n) (g n)
    rw [mn_congr n (fun k hk => h k (by omega)), h n (by omega)]
/-- is a name among the first j labels -/
def lbl (h : AH) (v : Int64) : Nat → Bool
  | 0 => false
  | j + 1 => lbl h v j || decide (hL h 12 j = v)
def DL (h : AH) (g : Gh) (j : Nat) : Nat := if lbl h (hL h 12 j) j = true then 4 * g 5 j + 2 else 100000
/-- what both have told so far -/
def AC (h m : AH) (n L a : Nat) (g : Gh) : Prop :=
  (hI h 4 1 = nI n ∧ hI m 226 13 = nI (g 7 n) ∧ hI h 4 14 = nI (g 7 n)) ∧
  (hI h 4 9 = nI L ∧ hI m 226 10 = nI L) ∧
  (hI h 4 13 = nI a ∧ hI m 226 20 = nI a ∧ a % 4 = 0 ∧ a ≤ 8192 + 8 * n) ∧
  (∀ j, j < L → hL h 12 j = hL m 231 j ∧ hI h 13 j = nI (g 5 j) ∧ hI h 14 j = nI (g 6 j) ∧ hI m 232 j = nI (g 6 j) ∧ g 5 j ≤ 1500 ∧ g 6 j ≤ 20000) ∧
  (∀ k, k < n → IT h m g k) ∧
  (∀ d, d < 16 → hI h 15 d = nI (g 8 d % 8192) ∧ hI m 238 d = nI (g 8 d) ∧ g 8 d ≤ 20000) ∧
  (hI h 4 16 = 0 ∧ hI h 4 17 = 0) ∧
  (cst m ∧ NR m) ∧
  (g 7 0 = 0)
theorem AC.it {h m : AH} {n L a : Nat} {g : Gh} (Q : AC h m n L a g) : hI h 4 1 = nI n ∧ hI m 226 13 = nI (g 7 n) ∧ hI h 4 14 = nI (g 7 n) := Q.1
theorem AC.lb {h m : AH} {n L a : Nat} {g : Gh} (Q : AC h m n L a g) : hI h 4 9 = nI L ∧ hI m 226 10 = nI L := Q.2.1
theorem AC.ad {h m : AH} {n L a : Nat} {g : Gh} (Q : AC h m n L a g) : hI h 4 13 = nI a ∧ hI m 226 20 = nI a ∧ a % 4 = 0 ∧ a ≤ 8192 + 8 * n := Q.2.2.1
theorem AC.la {h m : AH} {n L a : Nat} {g : Gh} (Q : AC h m n L a g) : ∀ j, j < L → hL h 12 j = hL m 231 j ∧ hI h 13 j = nI (g 5 j) ∧ hI h 14 j = nI (g 6 j) ∧ hI m 232 j = nI (g 6 j) ∧ g 5 j ≤ 1500 ∧ g 6 j ≤ 20000 := Q.2.2.2.1
theorem AC.im {h m : AH} {n L a : Nat} {g : Gh} (Q : AC h m n L a g) : ∀ k, k < n → IT h m g k := Q.2.2.2.2.1
theorem AC.st {h m : AH} {n L a : Nat} {g : Gh} (Q : AC h m n L a g) : ∀ d, d < 16 → hI h 15 d = nI (g 8 d % 8192) ∧ hI m 238 d = nI (g 8 d) ∧ g 8 d ≤ 20000 := Q.2.2.2.2.2.1
theorem AC.nf {h m : AH} {n L a : Nat} {g : Gh} (Q : AC h m n L a g) : hI h 4 16 = 0 ∧ hI h 4 17 = 0 := Q.2.2.2.2.2.2.1
theorem AC.cs {h m : AH} {n L a : Nat} {g : Gh} (Q : AC h m n L a g) : cst m ∧ NR m := Q.2.2.2.2.2.2.2.1
theorem AC.g0 {h m : AH} {n L a : Nat} {g : Gh} (Q : AC h m n L a g) : g 7 0 = 0 := Q.2.2.2.2.2.2.2.2
theorem lbl_congr {h h' : AH} (v : Int64) : ∀ j, (∀ k, k < j → hL h' 12 k = hL h 12 k) → lbl h' v j = lbl h v j
  | 0, _ => rfl
  | j + 1, f => by
    show (lbl h' v j || decide (hL h' 12 j = v)) = (lbl h v j || decide (hL h 12 j = v))
    rw [lbl_congr v j (fun k hk => f k (by omega)), f j (by omega)]
theorem AC_fr {h m h' m' : AH} {n L a : Nat} {g : Gh} (A : AC h m n L a g) (e1 : h'.2.2 = h.2.2) (f1 : ∀ o k, o ≠ 2 → ¬ ((5 ≤ o ∧ o ≤ 11) ∧ n ≤ k) → 4 ≤ o → o ≤ 15 → hI h' o k = hI h o k) (f2 : ∀ o k, o ≠ 2 → ¬ (o = 11 ∧ n ≤ k) → hL h' o k = hL h o k) (e2' : m'.2.2 = m.2.2) (f3 : ∀ o k, (231 ≤ o ∧ o ≤ 238) ∨ o = 274 ∨ o = 275 ∨ (o = 226 ∧ (k = 10 ∨ k = 13 ∨ k = 20)) → hI m' o k = hI m o k) (f4 : ∀ o k, o = 231 ∨ o = 236 → hL m' o k = hL m o k) : AC h' m' n L a g := by
  refine ⟨?_, ?_, ?_, fun j hj => ?_, fun k hk => ?_, fun d hd => ?_, ?_, ⟨?_, ?_⟩, A.g0⟩
  · rw [f1 4 1 (by omega) (by omega) (by omega) (by omega), f3 _ _ (by omega), f1 4 14 (by omega) (by omega) (by omega) (by omega)]; exact A.it
  · rw [f1 4 9 (by omega) (by omega) (by omega) (by omega), f3 _ _ (by omega)]; exact A.lb
  · rw [f1 4 13 (by omega) (by omega) (by omega) (by omega), f3 _ _ (by omega)]; exact A.ad
  · rw [f2 12 j (by omega) (by omega), f4 231 j (by omega), f1 13 j (by omega) (by omega) (by omega) (by omega), f1 14 j (by omega) (by omega) (by omega) (by omega), f3 232 j (by omega)]; exact A.la j hj
  · have I := A.im k hk
    unfold IT PT at I ⊢
    have r : ∀ o, 5 ≤ o → o ≤ 11 → hI h' o k = hI h o k := fun o h1 h2 => f1 o k (by omega) (by omega) (by omega) (by omega)
    rw [r 5 (by omega) (by omega), r 6 (by omega) (by omega), r 7 (by omega) (by omega), r 8 (by omega) (by omega), r 9 (by omega) (by omega), r 10 (by omega) (by omega), f2 11 k (by omega) (by omega), f3 233 _ (by omega), f3 234 _ (by omega), f3 235 _ (by omega), f3 237 _ (by omega), f4 236 _ (by omega), f3 233 (g 7 k + 1) (by omega), f3 234 (g 7 k + 1) (by omega), f3 235 (g 7 k + 1) (by omega), f3 237 (g 7 k + 1) (by omega), f4 236 (g 7 k + 1) (by omega)]
    exact I
  · rw [f1 15 d (by omega) (by omega) (by omega) (by omega), f3 238 d (by omega)]; exact A.st d hd
  · rw [f1 4 16 (by omega) (by omega) (by omega) (by omega), f1 4 17 (by omega) (by omega) (by omega) (by omega)]; exact A.nf
  · exact cst_of A.cs.1 (fun o k q => f3 o k (by omega))
  · intro k hk
    have : hR m' 273 k = hR m 273 k := by show m'.2.2.1 273 k = m.2.2.1 273 k; rw [e2']
    rw [this]; exact A.cs.2 k hk
/-- the faults so far -/
def KX (h : AH) (g : Gh) (n L : Nat) : Nat := min (mn (DL h g) L) (mn (KA h g) n)
theorem KX_congr {h h' : AH} {g g' : Gh} {n L : Nat} (f1 : ∀ k, k < L → hL h' 12 k = hL h 12 k ∧ g' 5 k = g 5 k) (f2 : ∀ k, k < n → hL h' 11 k = hL h 11 k ∧ ∀ F, F ≤ 4 → g' F k = g F k) : KX h' g' n L = KX h g n L := by
  unfold KX
  rw [mn_congr (f := DL h' g') (g := DL h g) L (fun j hj => by
    unfold DL
    rw [(f1 j hj).1, (f1 j hj).2, lbl_congr _ j (fun k hk => (f1 k (by omega)).1)]), mn_congr (f := KA h' g') (g := KA h g) n (fun k hk => by
    obtain ⟨q1, q2⟩ := f2 k hk
    unfold KA
    rw [q1, q2 0 (by omega), q2 1 (by omega), q2 2 (by omega), q2 3 (by omega), q2 4 (by omega)])]
