/-! The abstract heap and the words of the printed functions. -/
/-! The abstract heap: ids from 1 on (0 is null); ints, longs and references by id and place; the shape and the length of each; how many cells and slots were made. -/
abbrev AH : Type := (Nat → Nat → Int32) × (Nat → Nat → Int64) × (Nat → Nat → Nat) × (Nat → Nat) × (Nat → Nat) × Nat × Nat
def hI (h : AH) (o k : Nat) : Int32 := h.1 o k
def hL (h : AH) (o k : Nat) : Int64 := h.2.1 o k
def hR (h : AH) (o k : Nat) : Nat := h.2.2.1 o k
def hS (h : AH) (o : Nat) : Nat := h.2.2.2.1 o
def hN (h : AH) (o : Nat) : Nat := h.2.2.2.2.1 o
def hZ (h : AH) : Nat := h.2.2.2.2.2.1
def hV (h : AH) : Nat := h.2.2.2.2.2.2
def up1 {α : Type} (f : Nat → α) (o : Nat) (v : α) : Nat → α := fun a => if a = o then v else f a
def up2 {α : Type} (f : Nat → Nat → α) (o k : Nat) (v : α) : Nat → Nat → α := fun a b => if a = o ∧ b = k then v else f a b
def sI (h : AH) (o k : Nat) (v : Int32) : AH := (up2 h.1 o k v, h.2)
def sL (h : AH) (o k : Nat) (v : Int64) : AH := (h.1, up2 h.2.1 o k v, h.2.2)
def sR (h : AH) (o k : Nat) (v : Nat) : AH := (h.1, h.2.1, up2 h.2.2.1 o k v, h.2.2.2)
/-- a whole row of ints anew -/
def sA (h : AH) (o : Nat) (f : Nat → Int32) : AH := (up1 h.1 o f, h.2)
/-- a new cell of shape s, length n, w slots; its id is hZ h + 1 -/
def hNew (h : AH) (s n w : Nat) : AH := (up1 h.1 (hZ h + 1) (fun _ => 0), up1 h.2.1 (hZ h + 1) (fun _ => 0), up1 h.2.2.1 (hZ h + 1) (fun _ => 0), up1 h.2.2.2.1 (hZ h + 1) s, up1 h.2.2.2.2.1 (hZ h + 1) n, hZ h + 1, hV h + w)
/-- the heap h with n cells -/
def hB (h : AH) (n : Nat) : AH := (h.1, h.2.1, h.2.2.1, h.2.2.2.1, h.2.2.2.2.1, n, h.2.2.2.2.2.2)
def jushr (x y : Int32) : Int32 := (x.toUInt32 >>> (y.toUInt32 &&& Int32.toUInt32 31)).toInt32
def jlushr (x : Int64) (y : Int32) : Int64 := (x.toUInt64 >>> (y.toInt64.toUInt64 &&& Int64.toUInt64 63)).toInt64
def ji2c (x : Int32) : Int32 := (x.toUInt32 % 65536).toInt32
def ib (i : Int32) (n : Nat) : Bool := decide (¬ (i < 0 ∨ n ≤ i.toNatClampNeg))
def cpok (sp dp n : Int32) (n0 n1 : Nat) : Bool := decide (¬ sp < 0) && decide (¬ dp < 0) && decide (¬ n < 0) && decide (sp.toNatClampNeg + n.toNatClampNeg ≤ n0) && decide (dp.toNatClampNeg + n.toNatClampNeg ≤ n1)
def gs {α : Type} (h : AH) (o s : Nat) (k : Option α) : Option α := if hS h o = s then k else none
def gb {α : Type} (b : Bool) (k : Option α) : Option α := if b = true then k else none
def lt {α β : Type} (v : α) (k : α → Option β) : Option β := k v
def bd {α β : Type} (v : Option α) (k : α → Option β) : Option β := match v with
  | none => none
  | some a => k a
def FU : Nat := 4294967296
theorem gs_some {α : Type} {h : AH} {o s : Nat} {k : Option α} {r : α} (e : gs h o s k = some r) : hS h o = s ∧ k = some r := by
  unfold gs at e
  by_cases c : hS h o = s
  · rw [if_pos c] at e; exact ⟨c, e⟩
  · rw [if_neg c] at e; cases e
theorem gb_some {α : Type} {b : Bool} {k : Option α} {r : α} (e : gb b k = some r) : b = true ∧ k = some r := by
  unfold gb at e
  by_cases c : b = true
  · rw [if_pos c] at e; exact ⟨c, e⟩
  · rw [if_neg c] at e; cases e
theorem lt_some {α β : Type} {v : α} {k : α → Option β} {r : β} (e : lt v k = some r) : ∃ x, x = v ∧ k x = some r := ⟨v, rfl, e⟩
theorem bd_some {α β : Type} {v : Option α} {k : α → Option β} {r : β} (e : bd v k = some r) : ∃ x, v = some x ∧ k x = some r := by
  cases v with
  | none => cases e
  | some a => exact ⟨a, rfl, e⟩
theorem it_some {α : Type} {c : Prop} [Decidable c] {a b : Option α} {r : α} (e : (if c then a else b) = some r) : (c ∧ a = some r) ∨ (¬ c ∧ b = some r) := by
  by_cases h : c
  · rw [if_pos h] at e; exact Or.inl ⟨h, e⟩
  · rw [if_neg h] at e; exact Or.inr ⟨h, e⟩
def tCH : List Int32 := [0, 0, 0, 1, 1, 2, 2, 2, 2, 1, 2]
def tBB : List Int32 := [0, 255, 65280, 65535, 16711680, 16711935, 16776960, 16777215, -16777216, -16776961, -16711936, -16711681, -65536, -65281, -256, -1]
def mKey : List Int64 := [6382692, 7566690, 7564396, 7564404, 1936487541, 7892850, 7565932, 7565921, 28530, 6385252, 1633969257, 1936487529, 495740807541, 2020569705, 7303785, 1634624617, 1936485481, 1936878697, 1936875881, 27746, 27752, 27767, 7103093, 7104629, 29538, 29544, 29559, 6448497, 6450789, 6450292, 6448997, 1651274869, 1650943349, 7107945, 418581672035, 6971756, 1784769650, 27423398186934640, 107122647983204, 107122649493362, 107122647985764, 418447847282, 107122648770926, 107122648768888, 27423398085357173, 27423398084835445, 439788397413, 435459026028, 111473500447083, 7237488, 28022, 7237492, 7234919, 106, 7497076, 1650815354, 1651402106, 27753, 2003792484, 7303783, 1668248165]
def mForm : List Int32 := [0, 0, 0, 0, 0, 0, 0, 0, 0, 0, 1, 1, 1, 1, 1, 1, 2, 2, 2, 1, 1, 1, 1, 1, 3, 3, 3, 4, 4, 4, 4, 4, 4, 5, 5, 6, 1, 0, 0, 0, 0, 0, 0, 0, 0, 0, 0, 0, 0, 0, 0, 0, 0, 6, 0, 4, 4, 7, 8, 9, 10]
def mBase : List Int32 := [51, 1073741875, 4147, 8243, 12339, 16435, 20531, 1073762355, 24627, 28723, 19, 8211, 12307, 16403, 24595, 28691, 4115, 20499, 1073762323, 3, 4099, 8195, 16387, 20483, 35, 4131, 8227, 99, 4195, 16483, 20579, 24675, 28771, 55, 23, 111, 103, 134225967, 8239, 536879151, 1610620975, 1073750063, -2147475409, -1610604497, -1073733585, -536862673, 267386895, 115, 1048691, 19, 19, -1032173, 1073741875, 111, 32871, 99, 4195, 19, 0, 0, 0]
/-- the text of a word's operands, as a place among the texts (from 1 on; 1 .. 61 are the words themselves) -/
def mOps : List Nat := [62, 62, 62, 62, 62, 62, 62, 62, 62, 62, 63, 63, 63, 63, 63, 63, 63, 63, 63, 64, 64, 64, 64, 64, 65, 65, 65, 66, 66, 66, 66, 66, 66, 67, 67, 67, 64, 68, 68, 68, 68, 68, 68, 68, 68, 68, 69, 69, 69, 69, 70, 70, 71, 72, 69, 73, 73, 67, 72, 74, 74]
def sNum : Nat := 74
def sLen : List Nat := [3, 3, 3, 3, 4, 3, 3, 3, 2, 3, 4, 4, 5, 4, 3, 4, 4, 4, 4, 2, 2, 2, 3, 3, 2, 2, 2, 3, 3, 3, 3, 4, 4, 3, 5, 3, 4, 7, 6, 6, 6, 5, 6, 6, 7, 7, 5, 5, 6, 3, 2, 3, 3, 1, 3, 4, 4, 2, 4, 3, 4, 5, 5, 6, 6, 5, 3, 7, 0, 3, 3, 1, 3, 1]
def sByt : List (List Int32) := [[97, 100, 100], [115, 117, 98], [115, 108, 108], [115, 108, 116], [115, 108, 116, 117], [120, 111, 114], [115, 114, 108], [115, 114, 97], [111, 114], [97, 110, 100], [97, 100, 100, 105], [115, 108, 116, 105], [115, 108, 116, 105, 117], [120, 111, 114, 105], [111, 114, 105], [97, 110, 100, 105], [115, 108, 108, 105], [115, 114, 108, 105], [115, 114, 97, 105], [108, 98], [108, 104], [108, 119], [108, 98, 117], [108, 104, 117], [115, 98], [115, 104], [115, 119], [98, 101, 113], [98, 110, 101], [98, 108, 116], [98, 103, 101], [98, 108, 116, 117], [98, 103, 101, 117], [108, 117, 105], [97, 117, 105, 112, 99], [106, 97, 108], [106, 97, 108, 114], [97, 109, 111, 115, 119, 97, 112], [97, 109, 111, 97, 100, 100], [97, 109, 111, 120, 111, 114], [97, 109, 111, 97, 110, 100], [97, 109, 111, 111, 114], [97, 109, 111, 109, 105, 110], [97, 109, 111, 109, 97, 120], [97, 109, 111, 109, 105, 110, 117], [97, 109, 111, 109, 97, 120, 117], [102, 101, 110, 99, 101], [101, 99, 97, 108, 108], [101, 98, 114, 101, 97, 107], [110, 111, 112], [109, 118], [110, 111, 116], [110, 101, 103], [106], [114, 101, 116], [98, 101, 113, 122], [98, 110, 101, 122], [108, 105], [119, 111, 114, 100], [111, 114, 103], [99, 111, 114, 101], [100, 44, 97, 44, 98], [100, 44, 97, 44, 78], [100, 44, 78, 40, 97, 41], [98, 44, 78, 40, 97, 41], [97, 44, 98, 44, 78], [100, 44, 78], [100, 44, 98, 44, 40, 97, 41], [], [100, 44, 97], [100, 44, 98], [78], [97, 44, 78], [110]]
def sok (i : Nat) : Bool := decide (0 < i) && decide (i ≤ sNum)
def cok (v : Int32) : Bool := v.toUInt32.toUInt16.toUInt32.toInt32 == v
def bok (v : Int32) : Bool := v.toInt8.toInt32 == v
def hT (h : AH) : AH := (h.1, h.2.1, h.2.2.1, h.2.2.2.1, h.2.2.2.2.1, hZ h + 1, hV h + 6)
