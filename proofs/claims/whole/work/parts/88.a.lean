/-! The two as they are made: general. -/
def nw (h : AH) (id s n w : Nat) : AH := (up1 h.1 id (fun _ => 0), up1 h.2.1 id (fun _ => 0), up1 h.2.2.1 id (fun _ => 0), up1 h.2.2.2.1 id s, up1 h.2.2.2.2.1 id n, id, hV h + w)
theorem hNew_nw {h : AH} {id : Nat} (e : hZ h + 1 = id) (s n w : Nat) : hNew h s n w = nw h id s n w := by subst e; rfl
def nfx (a0 : Nat) : List (Nat × Nat × Nat) → AH → Nat → AH
  | [], h, _ => h
  | x :: r, h, id => nfx a0 r (sR (nw h id x.2.1 x.2.2 x.2.2) a0 x.1 id) (id + 1)
def Pn {α : Type} (a0 s : Nat) (K : AH → Option α) : List (Nat × Nat × Nat) → AH → Option α
  | [], h => K h
  | x :: r, h => lt (hNew h x.2.1 x.2.2 x.2.2) fun h1 => gs h1 a0 s <| lt (sR h1 a0 x.1 (hZ h + 1)) fun h2 => Pn a0 s K r h2
theorem nw_S {h : AH} {id s n w a : Nat} (q : a ≠ id) : hS (nw h id s n w) a = hS h a := by show up1 h.2.2.2.1 id s a = _; unfold up1; rw [if_neg q]; rfl
theorem nw_N {h : AH} {id s n w a : Nat} (q : a ≠ id) : hN (nw h id s n w) a = hN h a := by show up1 h.2.2.2.2.1 id n a = _; unfold up1; rw [if_neg q]; rfl
theorem nw_R {h : AH} {id s n w a k : Nat} (q : a ≠ id) : hR (nw h id s n w) a k = hR h a k := by show up1 h.2.2.1 id (fun _ => 0) a k = _; unfold up1; rw [if_neg q]; rfl
theorem nw_I {h : AH} {id s n w a k : Nat} (q : a ≠ id) : hI (nw h id s n w) a k = hI h a k := by show up1 h.1 id (fun _ => 0) a k = _; unfold up1; rw [if_neg q]; rfl
theorem nw_I0 {h : AH} {id s n w k : Nat} : hI (nw h id s n w) id k = 0 := by show up1 h.1 id (fun _ => 0) id k = _; unfold up1; rw [if_pos rfl]
theorem nw_S0 {h : AH} {id s n w : Nat} : hS (nw h id s n w) id = s := by show up1 h.2.2.2.1 id s id = _; unfold up1; rw [if_pos rfl]
theorem nw_N0 {h : AH} {id s n w : Nat} : hN (nw h id s n w) id = n := by show up1 h.2.2.2.2.1 id n id = _; unfold up1; rw [if_pos rfl]
theorem Pn_eq {α : Type} {a0 s : Nat} {K : AH → Option α} : ∀ (l : List (Nat × Nat × Nat)) (h : AH) (id : Nat), hS h a0 = s → a0 ≤ hZ h → hZ h + 1 = id → Pn a0 s K l h = K (nfx a0 l h id)
  | [], _, _, _, _, _ => rfl
  | x :: r, h, id, e, z, q => by
    have ih := Pn_eq (K := K) r (sR (nw h id x.2.1 x.2.2 x.2.2) a0 x.1 id) (id + 1) ((nw_S (by omega)).trans e) (show a0 ≤ id by omega) rfl
    show (lt (hNew h x.2.1 x.2.2 x.2.2) fun h1 => gs h1 a0 s <| lt (sR h1 a0 x.1 (hZ h + 1)) fun h2 => Pn a0 s K r h2) = _
    rw [hNew_nw q, q, y_lt, y_gs, if_pos ((nw_S (by omega)).trans e), y_lt]
    exact ih
theorem nfx_I (a0 : Nat) : ∀ (l : List (Nat × Nat × Nat)) (h : AH) (id a k : Nat), hI (nfx a0 l h id) a k = if id ≤ a ∧ a < id + l.length then 0 else hI h a k
  | [], h, id, a, k => by rw [if_neg (by show ¬ (id ≤ a ∧ a < id + 0); omega)]; rfl
  | x :: r, h, id, a, k => by
    show hI (nfx a0 r (sR (nw h id x.2.1 x.2.2 x.2.2) a0 x.1 id) (id + 1)) a k = _
    rw [nfx_I a0 r]
    have e : hI (sR (nw h id x.2.1 x.2.2 x.2.2) a0 x.1 id) a k = if a = id then 0 else hI h a k := by
      show hI (nw h id x.2.1 x.2.2 x.2.2) a k = _
      by_cases q : a = id
      · subst q; rw [if_pos rfl]; exact nw_I0
      · rw [if_neg q]; exact nw_I q
    rw [e]
    have ll : (x :: r).length = r.length + 1 := rfl
    rw [ll]
    by_cases q1 : id + 1 ≤ a ∧ a < id + 1 + r.length
    · rw [if_pos q1, if_pos (by omega)]
    · rw [if_neg q1]
      by_cases q2 : a = id
      · rw [if_pos q2, if_pos (by omega)]
      · rw [if_neg q2, if_neg (by omega)]
/-- runs of writes -/
def QI {α : Type} (o : Nat) (K : AH → Option α) : List (Int32 × Int32) → AH → Option α
  | [], h => K h
  | x :: r, h => gb (ib x.1 (hN h o)) <| lt (sI h o x.1.toNatClampNeg x.2) fun h2 => QI o K r h2
def wI (o : Nat) : List (Int32 × Int32) → AH → AH
  | [], h => h
  | x :: r, h => wI o r (sI h o x.1.toNatClampNeg x.2)
theorem QI_eq {α : Type} {o : Nat} {K : AH → Option α} {n : Nat} : ∀ (l : List (Int32 × Int32)) (h : AH), hN h o = n → (l.all fun x => ib x.1 n) = true → QI o K l h = K (wI o l h)
  | [], _, _, _ => rfl
  | x :: r, h, e, q => by
    have q2 := (Bool.and_eq_true_iff.mp (show (ib x.1 n && r.all fun x => ib x.1 n) = true from q))
    show (gb (ib x.1 (hN h o)) <| lt (sI h o x.1.toNatClampNeg x.2) fun h2 => QI o K r h2) = _
    rw [y_gb, if_pos (by rw [e]; exact q2.1), y_lt]
    exact QI_eq r _ e q2.2
theorem wI_ne {o a k : Nat} (q : a ≠ o) : ∀ (l : List (Int32 × Int32)) (h : AH), hI (wI o l h) a k = hI h a k
  | [], _ => rfl
  | x :: r, h => by
    show hI (wI o r (sI h o x.1.toNatClampNeg x.2)) a k = _
    rw [wI_ne q r, x_ne (by omega)]
theorem wI_2 {o : Nat} : ∀ (l : List (Int32 × Int32)) (h : AH), (wI o l h).2 = h.2
  | [], _ => rfl
  | x :: r, h => wI_2 r (sI h o x.1.toNatClampNeg x.2)
def QRr {α : Type} (o : Nat) (K : AH → Option α) : List (Int32 × Nat) → AH → Option α
  | [], h => K h
  | x :: r, h => gb (ib x.1 (hN h o)) <| lt (sR h o x.1.toNatClampNeg x.2) fun h2 => QRr o K r h2
def wRr (o : Nat) : List (Int32 × Nat) → AH → AH
  | [], h => h
  | x :: r, h => wRr o r (sR h o x.1.toNatClampNeg x.2)
theorem QRr_eq {α : Type} {o : Nat} {K : AH → Option α} {n : Nat} : ∀ (l : List (Int32 × Nat)) (h : AH), hN h o = n → (l.all fun x => ib x.1 n) = true → QRr o K l h = K (wRr o l h)
  | [], _, _, _ => rfl
  | x :: r, h, e, q => by
    have q2 := (Bool.and_eq_true_iff.mp (show (ib x.1 n && r.all fun x => ib x.1 n) = true from q))
    show (gb (ib x.1 (hN h o)) <| lt (sR h o x.1.toNatClampNeg x.2) fun h2 => QRr o K r h2) = _
    rw [y_gb, if_pos (by rw [e]; exact q2.1), y_lt]
    exact QRr_eq r _ e q2.2
theorem wRr_I {o a k : Nat} : ∀ (l : List (Int32 × Nat)) (h : AH), hI (wRr o l h) a k = hI h a k
  | [], _ => rfl
  | x :: r, h => wRr_I r (sR h o x.1.toNatClampNeg x.2)
/-! The reference is made. -/
def mE : AH := (fun _ _ => 0, fun _ _ => 0, fun _ _ => 0, fun _ => 0, fun _ => 0, 0, 0)
def mq0 : AH := nw (hB mE 225) 226 10 0 81
def rl1 : List (Nat × Nat × Nat) := [(1, 21, (1500 : Int32).toNatClampNeg), (6, 21, (1502 : Int32).toNatClampNeg), (7, 21, (1502 : Int32).toNatClampNeg), (8, 22, (1502 : Int32).toNatClampNeg), (11, 22, (760 : Int32).toNatClampNeg), (12, 21, (760 : Int32).toNatClampNeg), (14, 21, (700 : Int32).toNatClampNeg), (15, 21, (700 : Int32).toNatClampNeg), (16, 21, (700 : Int32).toNatClampNeg), (17, 22, (700 : Int32).toNatClampNeg), (18, 21, (700 : Int32).toNatClampNeg), (19, 21, (16 : Int32).toNatClampNeg), (21, 21, (6 : Int32).toNatClampNeg), (22, 21, (6 : Int32).toNatClampNeg), (23, 21, (2048 : Int32).toNatClampNeg)]
def rl2 : List (Nat × Nat × Nat) := [(24, 21, (2048 : Int32).toNatClampNeg), (25, 21, (512 : Int32).toNatClampNeg), (26, 21, (16 : Int32).toNatClampNeg), (27, 21, (16 : Int32).toNatClampNeg), (28, 21, (16 : Int32).toNatClampNeg), (29, 21, (16 : Int32).toNatClampNeg), (30, 21, (16 : Int32).toNatClampNeg), (31, 21, (256 : Int32).toNatClampNeg), (32, 21, (256 : Int32).toNatClampNeg), (33, 21, (256 : Int32).toNatClampNeg), (34, 21, (16 : Int32).toNatClampNeg), (35, 21, (16 : Int32).toNatClampNeg), (36, 24, (16 : Int32).toNatClampNeg), (37, 21, (16 : Int32).toNatClampNeg), (38, 21, (16 : Int32).toNatClampNeg), (39, 21, (3584 : Int32).toNatClampNeg)]
def rl3 : List (Nat × Nat × Nat) := [(44, 21, (512 : Int32).toNatClampNeg), (45, 21, (512 : Int32).toNatClampNeg), (46, 21, (512 : Int32).toNatClampNeg), (48, 21, (512 : Int32).toNatClampNeg), (49, 21, (2048 : Int32).toNatClampNeg), (50, 24, (512 : Int32).toNatClampNeg), (51, 21, (512 : Int32).toNatClampNeg), (52, 21, (512 : Int32).toNatClampNeg), (53, 21, (512 : Int32).toNatClampNeg), (54, 21, (512 : Int32).toNatClampNeg), (55, 21, (512 : Int32).toNatClampNeg), (56, 21, (512 : Int32).toNatClampNeg), (58, 21, (700 : Int32).toNatClampNeg), (60, 21, (75600 : Int32).toNatClampNeg), (61, 21, (9 : Int32).toNatClampNeg)]
theorem x11_1 (h : AH) : f_X11_init h 226 = gs h 226 10 (Pn 226 10 (fun h => f_X11_init_L136 h 226) rl1 h) := by unfold f_X11_init rl1; simp only [Pn]
theorem x11_2 (h : AH) : f_X11_init_L136 h 226 = Pn 226 10 (fun h => f_X11_init_L270 h 226) rl2 h := by unfold f_X11_init_L136 rl2; simp only [Pn]
theorem x11_3 (h : AH) : f_X11_init_L270 h 226 = Pn 226 10 (fun h45 => lt (hNew h45 26 (61 : Int32).toNatClampNeg (61 : Int32).toNatClampNeg) fun h46 => gb (ib (0 : Int32) (hN h46 (hZ h45 + 1))) <| lt (sR h46 (hZ h45 + 1) (0 : Int32).toNatClampNeg (0 + 1)) fun h49 => f_X11_init_L414 h49 226 226 (hZ h45 + 1)) rl3 h := rfl
def mq1 : AH := nfx 226 rl1 mq0 227
def mq2 : AH := nfx 226 rl2 mq1 242
def mq3 : AH := nfx 226 rl3 mq2 258
def mq4 : AH := sR (nw mq3 273 26 61 61) 273 0 1
def rw_L414 : List (Int32 × Nat) := [((1 : Int32), (1 + 1)), ((2 : Int32), (2 + 1)), ((3 : Int32), (3 + 1)), ((4 : Int32), (4 + 1)), ((5 : Int32), (5 + 1)), ((6 : Int32), (6 + 1)), ((7 : Int32), (7 + 1)), ((8 : Int32), (8 + 1)), ((9 : Int32), (9 + 1)), ((10 : Int32), (10 + 1)), ((11 : Int32), (11 + 1)), ((12 : Int32), (12 + 1)), ((13 : Int32), (13 + 1)), ((14 : Int32), (14 + 1)), ((15 : Int32), (15 + 1)), ((16 : Int32), (16 + 1))]
theorem x11_L414 (h : AH) (s1 : Nat) : f_X11_init_L414 h 226 226 s1 = gs h s1 26 (QRr s1 (fun h => f_X11_init_L505 h 226 226 s1) rw_L414 h) := rfl
def mq5 : AH := wRr 273 rw_L414 mq4
def rw_L505 : List (Int32 × Nat) := [((17 : Int32), (17 + 1)), ((18 : Int32), (18 + 1)), ((19 : Int32), (19 + 1)), ((20 : Int32), (20 + 1)), ((21 : Int32), (21 + 1)), ((22 : Int32), (22 + 1)), ((23 : Int32), (23 + 1)), ((24 : Int32), (24 + 1)), ((25 : Int32), (25 + 1)), ((26 : Int32), (26 + 1)), ((27 : Int32), (27 + 1)), ((28 : Int32), (28 + 1)), ((29 : Int32), (29 + 1)), ((30 : Int32), (30 + 1)), ((31 : Int32), (31 + 1)), ((32 : Int32), (32 + 1))]
theorem x11_L505 (h : AH) (s1 : Nat) : f_X11_init_L505 h 226 226 s1 = gs h s1 26 (QRr s1 (fun h => f_X11_init_L601 h 226 226 s1) rw_L505 h) := rfl
def mq6 : AH := wRr 273 rw_L505 mq5
def rw_L601 : List (Int32 × Nat) := [((33 : Int32), (33 + 1)), ((34 : Int32), (34 + 1)), ((35 : Int32), (35 + 1)), ((36 : Int32), (36 + 1)), ((37 : Int32), (37 + 1)), ((38 : Int32), (38 + 1)), ((39 : Int32), (39 + 1)), ((40 : Int32), (40 + 1)), ((41 : Int32), (41 + 1)), ((42 : Int32), (42 + 1)), ((43 : Int32), (43 + 1)), ((44 : Int32), (44 + 1)), ((45 : Int32), (45 + 1)), ((46 : Int32), (46 + 1)), ((47 : Int32), (47 + 1)), ((48 : Int32), (48 + 1))]
theorem x11_L601 (h : AH) (s1 : Nat) : f_X11_init_L601 h 226 226 s1 = gs h s1 26 (QRr s1 (fun h => f_X11_init_L697 h 226 226 s1) rw_L601 h) := rfl
def mq7 : AH := wRr 273 rw_L601 mq6
def rw_L697 : List (Int32 × Nat) := [((49 : Int32), (49 + 1)), ((50 : Int32), (50 + 1)), ((51 : Int32), (51 + 1)), ((52 : Int32), (52 + 1)), ((53 : Int32), (53 + 1)), ((54 : Int32), (54 + 1)), ((55 : Int32), (55 + 1)), ((56 : Int32), (56 + 1)), ((57 : Int32), (57 + 1)), ((58 : Int32), (58 + 1)), ((59 : Int32), (59 + 1)), ((60 : Int32), (60 + 1))]
def rv_L697 : List (Int32 × Int32) := [((0 : Int32), (0 : Int32)), ((1 : Int32), (0 : Int32)), ((2 : Int32), (0 : Int32))]
theorem x11_L697 (h : AH) (s1 : Nat) : f_X11_init_L697 h 226 226 s1 = gs h s1 26 (QRr s1 (fun h6 => gs h6 226 10 <| lt (sR h6 226 68 s1) fun h8 => lt (hNew h8 21 (61 : Int32).toNatClampNeg (61 : Int32).toNatClampNeg) fun h9 => QI (hZ h8 + 1) (fun h => f_X11_init_L798 h 226 226 (hZ h8 + 1)) rv_L697 h9) rw_L697 h) := rfl
def mq8 : AH := wRr 273 rw_L697 mq7
def mq9 : AH := nw (sR mq8 226 68 273) 274 21 61 61
def mq10 : AH := wI 274 rv_L697 mq9
def rw_L798 : List (Int32 × Int32) := [((3 : Int32), (0 : Int32)), ((4 : Int32), (0 : Int32)), ((5 : Int32), (0 : Int32)), ((6 : Int32), (0 : Int32)), ((7 : Int32), (0 : Int32)), ((8 : Int32), (0 : Int32)), ((9 : Int32), (0 : Int32)), ((10 : Int32), (1 : Int32)), ((11 : Int32), (1 : Int32)), ((12 : Int32), (1 : Int32)), ((13 : Int32), (1 : Int32)), ((14 : Int32), (1 : Int32)), ((15 : Int32), (1 : Int32)), ((16 : Int32), (1 : Int32)), ((17 : Int32), (1 : Int32)), ((18 : Int32), (1 : Int32))]
theorem x11_L798 (h : AH) (s1 : Nat) : f_X11_init_L798 h 226 226 s1 = gs h s1 21 (QI s1 (fun h => f_X11_init_L875 h 226 226 s1) rw_L798 h) := rfl
def mq11 : AH := wI 274 rw_L798 mq10
def rw_L875 : List (Int32 × Int32) := [((19 : Int32), (2 : Int32)), ((20 : Int32), (2 : Int32)), ((21 : Int32), (2 : Int32)), ((22 : Int32), (2 : Int32)), ((23 : Int32), (2 : Int32)), ((24 : Int32), (3 : Int32)), ((25 : Int32), (3 : Int32)), ((26 : Int32), (3 : Int32)), ((27 : Int32), (4 : Int32)), ((28 : Int32), (4 : Int32)), ((29 : Int32), (4 : Int32)), ((30 : Int32), (4 : Int32)), ((31 : Int32), (4 : Int32)), ((32 : Int32), (4 : Int32)), ((33 : Int32), (5 : Int32)), ((34 : Int32), (5 : Int32))]
theorem x11_L875 (h : AH) (s1 : Nat) : f_X11_init_L875 h 226 226 s1 = gs h s1 21 (QI s1 (fun h => f_X11_init_L955 h 226 226 s1) rw_L875 h) := rfl
def mq12 : AH := wI 274 rw_L875 mq11
def rw_L955 : List (Int32 × Int32) := [((35 : Int32), (6 : Int32)), ((36 : Int32), (2 : Int32)), ((37 : Int32), (7 : Int32)), ((38 : Int32), (7 : Int32)), ((39 : Int32), (7 : Int32)), ((40 : Int32), (7 : Int32)), ((41 : Int32), (7 : Int32)), ((42 : Int32), (7 : Int32)), ((43 : Int32), (7 : Int32)), ((44 : Int32), (7 : Int32)), ((45 : Int32), (7 : Int32)), ((46 : Int32), (8 : Int32)), ((47 : Int32), (8 : Int32)), ((48 : Int32), (8 : Int32)), ((49 : Int32), (8 : Int32)), ((50 : Int32), (9 : Int32))]
theorem x11_L955 (h : AH) (s1 : Nat) : f_X11_init_L955 h 226 226 s1 = gs h s1 21 (QI s1 (fun h => f_X11_init_L1050 h 226 226 s1) rw_L955 h) := rfl
def mq13 : AH := wI 274 rw_L955 mq12
def rw_L1050 : List (Int32 × Int32) := [((51 : Int32), (9 : Int32)), ((52 : Int32), (10 : Int32)), ((53 : Int32), (11 : Int32)), ((54 : Int32), (8 : Int32)), ((55 : Int32), (12 : Int32)), ((56 : Int32), (12 : Int32)), ((57 : Int32), (13 : Int32)), ((58 : Int32), (14 : Int32)), ((59 : Int32), (15 : Int32)), ((60 : Int32), (16 : Int32))]
def rv_L1050 : List (Int32 × Int32) := [((0 : Int32), (51 : Int32)), ((1 : Int32), (1073741875 : Int32)), ((2 : Int32), (4147 : Int32)), ((3 : Int32), (8243 : Int32)), ((4 : Int32), (12339 : Int32))]
theorem x11_L1050 (h : AH) (s1 : Nat) : f_X11_init_L1050 h 226 226 s1 = gs h s1 21 (QI s1 (fun h6 => gs h6 226 10 <| lt (sR h6 226 69 s1) fun h8 => lt (hNew h8 21 (61 : Int32).toNatClampNeg (61 : Int32).toNatClampNeg) fun h9 => QI (hZ h8 + 1) (fun h => f_X11_init_L1147 h 226 226 (hZ h8 + 1)) rv_L1050 h9) rw_L1050 h) := rfl
def mq14 : AH := wI 274 rw_L1050 mq13
def mq15 : AH := nw (sR mq14 226 69 274) 275 21 61 61
def mq16 : AH := wI 275 rv_L1050 mq15
def rw_L1147 : List (Int32 × Int32) := [((5 : Int32), (16435 : Int32)), ((6 : Int32), (20531 : Int32)), ((7 : Int32), (1073762355 : Int32)), ((8 : Int32), (24627 : Int32)), ((9 : Int32), (28723 : Int32)), ((10 : Int32), (19 : Int32)), ((11 : Int32), (8211 : Int32)), ((12 : Int32), (12307 : Int32)), ((13 : Int32), (16403 : Int32)), ((14 : Int32), (24595 : Int32)), ((15 : Int32), (28691 : Int32)), ((16 : Int32), (4115 : Int32)), ((17 : Int32), (20499 : Int32)), ((18 : Int32), (1073762323 : Int32)), ((19 : Int32), (3 : Int32)), ((20 : Int32), (4099 : Int32))]
theorem x11_L1147 (h : AH) (s1 : Nat) : f_X11_init_L1147 h 226 226 s1 = gs h s1 21 (QI s1 (fun h => f_X11_init_L1255 h 226 226 s1) rw_L1147 h) := rfl
def mq17 : AH := wI 275 rw_L1147 mq16
def rw_L1255 : List (Int32 × Int32) := [((21 : Int32), (8195 : Int32)), ((22 : Int32), (16387 : Int32)), ((23 : Int32), (20483 : Int32)), ((24 : Int32), (35 : Int32)), ((25 : Int32), (4131 : Int32)), ((26 : Int32), (8227 : Int32)), ((27 : Int32), (99 : Int32)), ((28 : Int32), (4195 : Int32)), ((29 : Int32), (16483 : Int32)), ((30 : Int32), (20579 : Int32)), ((31 : Int32), (24675 : Int32)), ((32 : Int32), (28771 : Int32)), ((33 : Int32), (55 : Int32)), ((34 : Int32), (23 : Int32)), ((35 : Int32), (111 : Int32)), ((36 : Int32), (103 : Int32))]
theorem x11_L1255 (h : AH) (s1 : Nat) : f_X11_init_L1255 h 226 226 s1 = gs h s1 21 (QI s1 (fun h => f_X11_init_L1361 h 226 226 s1) rw_L1255 h) := rfl
def mq18 : AH := wI 275 rw_L1255 mq17
def rw_L1361 : List (Int32 × Int32) := [((37 : Int32), (134225967 : Int32)), ((38 : Int32), (8239 : Int32)), ((39 : Int32), (536879151 : Int32)), ((40 : Int32), (1610620975 : Int32)), ((41 : Int32), (1073750063 : Int32)), ((42 : Int32), (-2147475409 : Int32)), ((43 : Int32), (-1610604497 : Int32)), ((44 : Int32), (-1073733585 : Int32)), ((45 : Int32), (-536862673 : Int32)), ((46 : Int32), (267386895 : Int32)), ((47 : Int32), (115 : Int32)), ((48 : Int32), (1048691 : Int32)), ((49 : Int32), (19 : Int32)), ((50 : Int32), (19 : Int32)), ((51 : Int32), (-1032173 : Int32)), ((52 : Int32), (1073741875 : Int32))]
theorem x11_L1361 (h : AH) (s1 : Nat) : f_X11_init_L1361 h 226 226 s1 = gs h s1 21 (QI s1 (fun h => f_X11_init_L1470 h 226 226 s1) rw_L1361 h) := rfl
def mq19 : AH := wI 275 rw_L1361 mq18
def rw_L1470 : List (Int32 × Int32) := [((53 : Int32), (111 : Int32)), ((54 : Int32), (32871 : Int32)), ((55 : Int32), (99 : Int32)), ((56 : Int32), (4195 : Int32)), ((57 : Int32), (0 : Int32)), ((58 : Int32), (0 : Int32)), ((59 : Int32), (0 : Int32)), ((60 : Int32), (0 : Int32))]
theorem x11_L1470 (h : AH) (s1 : Nat) : f_X11_init_L1470 h 226 226 s1 = gs h s1 21 (QI s1 (fun h6 => gs h6 226 10 <| lt (sR h6 226 70 s1) fun h8 => Pn 226 10 (fun h => lt ((0 : Int32)) fun x30 => f_X11_init_L1529 FU h 226 x30) [(80, 21, (9 : Int32).toNatClampNeg)] h8) rw_L1470 h) := by unfold f_X11_init_L1470 rw_L1470; simp only [QI, Pn]
def mq20 : AH := wI 275 rw_L1470 mq19
def mq21 : AH := nfx 226 [(80, 21, (9 : Int32).toNatClampNeg)] (sR mq20 226 70 275) 276
set_option maxRecDepth 20000 in
theorem x11_loop : ∀ (r f : Nat) (h : AH) (j : Nat), j + r = 6 → r < f → hS h 226 = 10 → hR h 226 22 = 240 → hS h 240 = 21 → hN h 240 = 6 → ∃ h2, f_X11_init_L1529 f h 226 (nI j) = (bd (f_X11_clear h2 226) fun q => some q) ∧ h2.2 = h.2 ∧ (∀ o k, ¬ (o = 240 ∧ j ≤ k ∧ k < 6) → hI h2 o k = hI h o k) ∧ ∀ k, j ≤ k → k < 6 → hI h2 240 k = 1
  | 0, f + 1, h, j, hj, _, e1, _, _, _ => by
    have : j = 6 := by omega
    subst this
    refine ⟨h, ?_, rfl, fun _ _ _ => rfl, fun k a b => absurd b (by omega)⟩
    show (if (6 : Int32) ≤ nI 6 then gs h 226 10 (bd (f_X11_clear h 226) fun q3 => some q3) else _) = _
    rw [if_pos (by decide), y_gs, if_pos e1]
  | r + 1, f + 1, h, j, hj, hf, e1, e2, e3, e4 => by
    obtain ⟨h2, q1, q2, q3, q4⟩ := x11_loop r f (sI h 240 j (1 : Int32)) (j + 1) (by omega) (by omega) e1 e2 e3 e4
    refine ⟨h2, ?_, q2, fun o k w => ?_, fun k a b => ?_⟩
    · rw [← q1]
      show (if (6 : Int32) ≤ nI j then _ else gs h 226 10 <| gs h (hR h 226 22) 21 <| gb (ib (nI j) (hN h (hR h 226 22))) <| lt (sI h (hR h 226 22) (nI j).toNatClampNeg (1 : Int32)) fun h7 => lt (nI j + (1 : Int32)) fun x8 => f_X11_init_L1529 f h7 226 x8) = _
      rw [if_neg (by rw [show (6 : Int32) = nI 6 from rfl, q_le (by omega) (by omega)]; omega), y_gs, if_pos e1, e2, y_gs, if_pos e3, e4, y_gb, if_pos (x_ib (by omega) (by omega)), y_lt, y_lt, x_cl (by omega), show nI j + (1 : Int32) = nI (j + 1) from q_add j 1]
    · rw [q3 o k (by omega), x_ne (by omega)]
    · by_cases w : k = j
      · subst w; rw [q3 _ _ (by omega), x_eq]
      · exact q4 k (by omega) b
theorem x11_made : ∃ h2, f_X11_init mq0 226 = (bd (f_X11_clear h2 226) fun q => some q) ∧ h2.2 = mq21.2 ∧ (∀ o k, ¬ (o = 240 ∧ k < 6) → hI h2 o k = hI mq21 o k) ∧ ∀ k, k < 6 → hI h2 240 k = 1 := by
  obtain ⟨h2, q1, q2, q3, q4⟩ := x11_loop 6 FU mq21 0 (by omega) (by decide) (by decide +kernel : hS mq21 226 = 10) (by decide +kernel : hR mq21 226 22 = 240) (by decide +kernel : hS mq21 240 = 21) (by decide +kernel : hN mq21 240 = 6)
  refine ⟨h2, ?_, q2, fun o k w => q3 o k (by omega), fun k w => q4 k (by omega) w⟩
  rw [← q1, show (nI 0 : Int32) = 0 from rfl]
  rw [x11_1, y_gs, if_pos (by decide +kernel : hS mq0 226 = 10), Pn_eq rl1 mq0 227 (by decide +kernel : hS mq0 226 = 10) (by decide +kernel) (by decide +kernel)]
  show f_X11_init_L136 mq1 226 = _
  rw [x11_2, Pn_eq rl2 mq1 242 (by decide +kernel : hS mq1 226 = 10) (by decide +kernel) (by decide +kernel)]
  show f_X11_init_L270 mq2 226 = _
  rw [x11_3, Pn_eq rl3 mq2 258 (by decide +kernel : hS mq2 226 = 10) (by decide +kernel) (by decide +kernel)]
  show (lt (hNew mq3 26 (61 : Int32).toNatClampNeg (61 : Int32).toNatClampNeg) fun h46 => gb (ib (0 : Int32) (hN h46 (hZ mq3 + 1))) <| lt (sR h46 (hZ mq3 + 1) (0 : Int32).toNatClampNeg (0 + 1)) fun h49 => f_X11_init_L414 h49 226 226 (hZ mq3 + 1)) = _
  rw [(by decide +kernel : hZ mq3 + 1 = 273), hNew_nw (by decide +kernel : hZ mq3 + 1 = 273), y_lt, y_gb, if_pos (by decide +kernel), y_lt]
  show f_X11_init_L414 mq4 226 226 273 = _
  rw [x11_L414, y_gs, if_pos (by decide +kernel : hS mq4 273 = 26), QRr_eq (n := 61) rw_L414 mq4 (by decide +kernel) (by decide +kernel)]
  show f_X11_init_L505 mq5 226 226 273 = _
  rw [x11_L505, y_gs, if_pos (by decide +kernel : hS mq5 273 = 26), QRr_eq (n := 61) rw_L505 mq5 (by decide +kernel) (by decide +kernel)]
  show f_X11_init_L601 mq6 226 226 273 = _
  rw [x11_L601, y_gs, if_pos (by decide +kernel : hS mq6 273 = 26), QRr_eq (n := 61) rw_L601 mq6 (by decide +kernel) (by decide +kernel)]
  show f_X11_init_L697 mq7 226 226 273 = _
  rw [x11_L697, y_gs, if_pos (by decide +kernel : hS mq7 273 = 26), QRr_eq (n := 61) rw_L697 mq7 (by decide +kernel) (by decide +kernel)]
  show (gs mq8 226 10 <| lt (sR mq8 226 68 273) fun h8 => lt (hNew h8 21 (61 : Int32).toNatClampNeg (61 : Int32).toNatClampNeg) fun h9 => QI (hZ h8 + 1) (fun h => f_X11_init_L798 h 226 226 (hZ h8 + 1)) rv_L697 h9) = _
  rw [y_gs, if_pos (by decide +kernel : hS mq8 226 = 10), y_lt, (by decide +kernel : hZ (sR mq8 226 68 273) + 1 = 274), hNew_nw (by decide +kernel : hZ (sR mq8 226 68 273) + 1 = 274), y_lt]
  show QI 274 (fun h => f_X11_init_L798 h 226 226 274) rv_L697 mq9 = _
  rw [QI_eq (n := 61) rv_L697 mq9 (by decide +kernel) (by decide +kernel)]
  show f_X11_init_L798 mq10 226 226 274 = _
  rw [x11_L798, y_gs, if_pos (by decide +kernel : hS mq10 274 = 21), QI_eq (n := 61) rw_L798 mq10 (by decide +kernel) (by decide +kernel)]
  show f_X11_init_L875 mq11 226 226 274 = _
  rw [x11_L875, y_gs, if_pos (by decide +kernel : hS mq11 274 = 21), QI_eq (n := 61) rw_L875 mq11 (by decide +kernel) (by decide +kernel)]
  show f_X11_init_L955 mq12 226 226 274 = _
  rw [x11_L955, y_gs, if_pos (by decide +kernel : hS mq12 274 = 21), QI_eq (n := 61) rw_L955 mq12 (by decide +kernel) (by decide +kernel)]
  show f_X11_init_L1050 mq13 226 226 274 = _
  rw [x11_L1050, y_gs, if_pos (by decide +kernel : hS mq13 274 = 21), QI_eq (n := 61) rw_L1050 mq13 (by decide +kernel) (by decide +kernel)]
  show (gs mq14 226 10 <| lt (sR mq14 226 69 274) fun h8 => lt (hNew h8 21 (61 : Int32).toNatClampNeg (61 : Int32).toNatClampNeg) fun h9 => QI (hZ h8 + 1) (fun h => f_X11_init_L1147 h 226 226 (hZ h8 + 1)) rv_L1050 h9) = _
  rw [y_gs, if_pos (by decide +kernel : hS mq14 226 = 10), y_lt, (by decide +kernel : hZ (sR mq14 226 69 274) + 1 = 275), hNew_nw (by decide +kernel : hZ (sR mq14 226 69 274) + 1 = 275), y_lt]
  show QI 275 (fun h => f_X11_init_L1147 h 226 226 275) rv_L1050 mq15 = _
  rw [QI_eq (n := 61) rv_L1050 mq15 (by decide +kernel) (by decide +kernel)]
  show f_X11_init_L1147 mq16 226 226 275 = _
  rw [x11_L1147, y_gs, if_pos (by decide +kernel : hS mq16 275 = 21), QI_eq (n := 61) rw_L1147 mq16 (by decide +kernel) (by decide +kernel)]
  show f_X11_init_L1255 mq17 226 226 275 = _
  rw [x11_L1255, y_gs, if_pos (by decide +kernel : hS mq17 275 = 21), QI_eq (n := 61) rw_L1255 mq17 (by decide +kernel) (by decide +kernel)]
  show f_X11_init_L1361 mq18 226 226 275 = _
  rw [x11_L1361, y_gs, if_pos (by decide +kernel : hS mq18 275 = 21), QI_eq (n := 61) rw_L1361 mq18 (by decide +kernel) (by decide +kernel)]
  show f_X11_init_L1470 mq19 226 226 275 = _
  rw [x11_L1470, y_gs, if_pos (by decide +kernel : hS mq19 275 = 21), QI_eq (n := 61) rw_L1470 mq19 (by decide +kernel) (by decide +kernel)]
  show (gs mq20 226 10 <| lt (sR mq20 226 70 275) fun h8 => Pn 226 10 (fun h => lt ((0 : Int32)) fun x30 => f_X11_init_L1529 FU h 226 x30) _ h8) = _
  rw [y_gs, if_pos (by decide +kernel : hS mq20 226 = 10), y_lt, Pn_eq _ _ 276 (by decide +kernel) (by decide +kernel) (by decide +kernel)]
  rw [y_lt, show nfx 226 [(80, 21, (9 : Int32).toNatClampNeg)] (sR mq20 226 70 275) 276 = mq21 from by unfold mq21; exact Eq.refl _]
def chkM (m : AH) : Bool := decide (hS m 226 = 10) && (lyR.all fun x => decide (hR m 226 x.1 = x.2.1) && decide (hS m x.2.1 = x.2.2.1) && decide (hN m x.2.1 = x.2.2.2)) && ((List.range 61).all fun k => decide (hR m 273 k = k + 1)) && ((List.range 61).all fun k => decide (hI m 274 k = nI (tHow.getD k 0)) && decide (hI m 275 k = tBas.getD k 0)) && decide (hZ m = 276) && decide (hV m ≤ 130000)
theorem m_chk : chkM mq21 = true := by decide +kernel
