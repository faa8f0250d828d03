/-! What is reckoned. -/
def rv (pl : Bool) (q : Int32) (f : Nat) (x y : Int32) : Int32 :=
  if f = 0 then (if pl = true ∧ q = (32 : Int32) then x - y else x + y) else if f = 1 then x <<< ((y &&& (31 : Int32)) &&& 31) else if f = 2 then (if y ≤ x then 0 else 1)
  else if f = 3 then (if (y ^^^ (-2147483648 : Int32)) ≤ (x ^^^ (-2147483648 : Int32)) then 0 else 1) else if f = 4 then x ^^^ y else if f = 5 then (if q = (32 : Int32) then x >>> ((y &&& (31 : Int32)) &&& 31) else jushr x (y &&& (31 : Int32)))
  else if f = 6 then x ||| y else x &&& y
def gd (pl : Bool) (q : Int32) (f : Nat) : Prop := if pl = true then q = 0 ∨ (q = (32 : Int32) ∧ (f = 0 ∨ f = 5)) else (f ≠ 1 ∧ f ≠ 5) ∨ q = 0 ∨ (q = (32 : Int32) ∧ f = 5)
theorem f8 {f : Nat} (h : f < 8) : f = 0 ∨ f = 1 ∨ f = 2 ∨ f = 3 ∨ f = 4 ∨ f = 5 ∨ f = 6 ∨ f = 7 := by omega
theorem c_variant (h : AH) {w : Int32} {f : Nat} (hf : (w >>> ((12 : Int32) &&& 31)) &&& (7 : Int32) = nI f) : f_X0_variant h w = some (nI f) := by
  unfold f_X0_variant
  have a1 : jushr w (12 : Int32) &&& (7 : Int32) = (w >>> ((12 : Int32) &&& 31)) &&& (7 : Int32) := fld (k := 12) (j := 3) (by omega) (by omega)
  rw [a1, hf]
theorem c_reckon (h : AH) {w x y : Int32} {f : Nat} (hf : (w >>> ((12 : Int32) &&& 31)) &&& (7 : Int32) = nI f) (h8 : f < 8) : f_X0_reckon h w x y = some (rv (decide (w &&& (127 : Int32) = (51 : Int32))) (jushr w (25 : Int32)) f x y) := by
  have v := c_variant h hf
  generalize hq : jushr w (25 : Int32) = q
  unfold f_X0_reckon
  rw [hq]
  have key : ∀ s0 : Int32, (s0 = 0 ↔ ¬ q = (32 : Int32)) → f_X0_reckon_L14 h w x y s0 = some (rv (decide (w &&& (127 : Int32) = (51 : Int32))) q f x y) := by
    intro s0 hs
    unfold f_X0_reckon_L14 f_X0_reckon_L79 f_X0_isBelow
    rw [v, y_bds]
    unfold rv
    rcases f8 h8 with rfl | rfl | rfl | rfl | rfl | rfl | rfl | rfl
    · rw [if_pos (show nI 0 = (0 : Int32) from rfl), if_pos rfl]
      by_cases g : q = (32 : Int32)
      · rw [if_neg (fun w => (hs.mp w) g)]
        by_cases g2 : w &&& (127 : Int32) = (51 : Int32)
        · rw [if_neg (fun w => w g2), if_pos ⟨decide_eq_true g2, g⟩]
        · rw [if_pos g2, if_neg (fun w => g2 (of_decide_eq_true w.1))]
      · rw [if_pos (hs.mpr g), if_neg (fun w => g w.2)]
    · rw [if_neg (by decide), if_pos (by decide), if_neg (by decide), if_pos rfl]
    · rw [if_neg (by decide), if_neg (by decide), if_pos (by decide)]
      show _ = some (if y ≤ x then 0 else 1)
      split <;> rfl
    · rw [if_neg (by decide), if_neg (by decide), if_neg (by decide), if_pos (by decide)]
      show _ = some (if (y ^^^ (-2147483648 : Int32)) ≤ (x ^^^ (-2147483648 : Int32)) then 0 else 1)
      by_cases g : (y ^^^ (-2147483648 : Int32)) ≤ (x ^^^ (-2147483648 : Int32))
      · rw [if_pos g, if_pos g, y_bds, if_pos rfl]
      · rw [if_neg g, if_neg g, y_bds, if_neg (by decide)]
    · rw [if_neg (by decide), if_neg (by decide), if_neg (by decide), if_neg (by decide), if_pos (by decide)]; rfl
    · rw [if_neg (by decide), if_neg (by decide), if_neg (by decide), if_neg (by decide), if_neg (by decide), if_pos (by decide)]
      by_cases g : q = (32 : Int32)
      · rw [if_neg (fun w => (hs.mp w) g)]; show _ = some (if q = (32 : Int32) then _ else _); rw [if_pos g]
      · rw [if_pos (hs.mpr g)]; show _ = some (if q = (32 : Int32) then _ else _); rw [if_neg g]
    · rw [if_neg (by decide), if_neg (by decide), if_neg (by decide), if_neg (by decide), if_neg (by decide), if_neg (by decide), if_pos (by decide)]; rfl
    · rw [if_neg (by decide), if_neg (by decide), if_neg (by decide), if_neg (by decide), if_neg (by decide), if_neg (by decide), if_neg (by decide)]; rfl
  by_cases g : q = (32 : Int32)
  · rw [if_neg (fun w => w g)]; exact key 1 ⟨fun w => absurd w (by decide), fun w => absurd g w⟩
  · rw [if_pos g]; exact key 0 ⟨fun _ => g, fun _ => rfl⟩
theorem c_knows (h : AH) {w : Int32} {f : Nat} (hf : (w >>> ((12 : Int32) &&& 31)) &&& (7 : Int32) = nI f) (h8 : f < 8) : ∃ v, f_X0_knows h w = some v ∧ (v = 0 ↔ ¬ gd true (jushr w (25 : Int32)) f) := by
  have v := c_variant h hf
  generalize hq : jushr w (25 : Int32) = q
  unfold f_X0_knows f_X0_knows_L29 gd
  rw [hq, y_lt, v, y_bds, if_pos rfl]
  by_cases g : q = 0
  · exact ⟨1, by rw [if_pos g], ⟨fun w => absurd w (by decide), fun w => absurd (Or.inl g) w⟩⟩
  · rw [if_neg g]
    by_cases g2 : q = (32 : Int32)
    · rw [if_neg (fun w => w g2)]
      by_cases g3 : f = 0
      · exact ⟨1, by rw [if_pos (by rw [g3]; rfl)], ⟨fun w => absurd w (by decide), fun w => absurd (Or.inr ⟨g2, Or.inl g3⟩) w⟩⟩
      · rw [if_neg (show ¬ nI f = (0 : Int32) from fun w => g3 ((q_eq (by omega) (show 0 < 2 ^ 31 by omega)).mp w))]
        by_cases g4 : f = 5
        · exact ⟨1, by rw [if_neg (fun w => w (by rw [g4]; rfl))], ⟨fun w => absurd w (by decide), fun w => absurd (Or.inr ⟨g2, Or.inr g4⟩) w⟩⟩
        · exact ⟨0, by rw [if_pos (show ¬ nI f = (5 : Int32) from fun w => g4 ((q_eq (by omega) (show 5 < 2 ^ 31 by omega)).mp w))], ⟨fun _ w => by rcases w with w | w; exact g w; exact absurd w.2 (by omega), fun _ => rfl⟩⟩
    · exact ⟨0, by rw [if_pos g2], ⟨fun _ w => by rcases w with w | w; exact g w; exact g2 w.1, fun _ => rfl⟩⟩
theorem c_knowsShift (h : AH) {w : Int32} {f : Nat} (hf : (w >>> ((12 : Int32) &&& 31)) &&& (7 : Int32) = nI f) (h8 : f < 8) : ∃ v, f_X0_knowsShift h w = some v ∧ (v = 0 ↔ ¬ gd false (jushr w (25 : Int32)) f) := by
  have v := c_variant h hf
  generalize hq : jushr w (25 : Int32) = q
  unfold f_X0_knowsShift f_X0_knowsShift_L40 gd
  rw [hq, y_lt, v, y_bds, if_neg (show ¬ false = true from by decide)]
  by_cases g1 : f = 1
  · have e1 : nI f = (1 : Int32) := by rw [g1]; rfl
    rw [if_neg (fun w => w e1)]
    by_cases g : q = 0
    · exact ⟨1, by rw [if_neg (fun w => w g)], ⟨fun w => absurd w (by decide), fun w => absurd (Or.inr (Or.inl g)) w⟩⟩
    · exact ⟨0, by rw [if_pos g], ⟨fun _ w => by rcases w with w | w | w; exact w.1 g1; exact g w; omega, fun _ => rfl⟩⟩
  · rw [if_pos (show ¬ nI f = (1 : Int32) from fun w => g1 ((q_eq (by omega) (show 1 < 2 ^ 31 by omega)).mp w))]
    by_cases g5 : f = 5
    · rw [if_neg (fun w => w (show nI f = (5 : Int32) from by rw [g5]; rfl))]
      by_cases g : q = 0
      · exact ⟨1, by rw [if_pos g], ⟨fun w => absurd w (by decide), fun w => absurd (Or.inr (Or.inl g)) w⟩⟩
      · rw [if_neg g]
        by_cases g2 : q = (32 : Int32)
        · exact ⟨1, by rw [if_neg (fun w => w g2)], ⟨fun w => absurd w (by decide), fun w => absurd (Or.inr (Or.inr ⟨g2, g5⟩)) w⟩⟩
        · exact ⟨0, by rw [if_pos g2], ⟨fun _ w => by rcases w with w | w | w; exact w.2 g5; exact g w; exact g2 w.1, fun _ => rfl⟩⟩
    · exact ⟨1, by rw [if_pos (show ¬ nI f = (5 : Int32) from fun w => g5 ((q_eq (by omega) (show 5 < 2 ^ 31 by omega)).mp w))], ⟨fun w => absurd w (by decide), fun w => absurd (Or.inl ⟨g1, g5⟩) w⟩⟩
theorem r_129 (m : AH) {c : Int32} {f d : Nat} (h8 : f < 8) {x y a7 a9 q : Int32} {pl : Bool} (h7 : a7 = 0 ↔ pl = false) (h9 : a9 = 0 ↔ ¬ (q = (32 : Int32) ∧ (f = 5 ∨ (pl = true ∧ f = 0)))) : f_X11_reckon_L129 m 226 c (nI f) (nI d) x a7 a9 y = f_X11_reckon_L305 m 226 c (nI d) (rv pl q f x y) := by
  unfold f_X11_reckon_L129 f_X11_reckon_L198 f_X11_reckon_L203 f_X11_reckon_L230 f_X11_reckon_L250 f_X11_reckon_L283 f_X11_isLessPlain rv
  rw [y_lt]
  rcases f8 h8 with rfl | rfl | rfl | rfl | rfl | rfl | rfl | rfl
  · rw [if_pos (show nI 0 = (0 : Int32) from rfl), if_pos rfl]
    by_cases g7 : a7 = 0
    · rw [if_pos g7, if_neg (fun w => by rw [h7.mp g7] at w; cases w.1)]
    · have p : pl = true := by cases pl; exact absurd (h7.mpr rfl) g7; rfl
      rw [if_neg g7]
      by_cases g : q = (32 : Int32)
      · rw [if_neg (fun w => (h9.mp w) ⟨g, Or.inr ⟨p, rfl⟩⟩), if_pos ⟨p, g⟩]
      · rw [if_pos (h9.mpr (fun w => g w.1)), if_neg (fun w => g w.2)]
  · rw [if_neg (by decide), if_pos (by decide), y_lt]; rfl
  · rw [if_neg (by decide), if_neg (by decide), if_pos (by decide)]
    show _ = f_X11_reckon_L305 m 226 c (nI d) (if y ≤ x then 0 else 1)
    split <;> rfl
  · rw [if_neg (by decide), if_neg (by decide), if_neg (by decide), if_pos (by decide)]
    show _ = f_X11_reckon_L305 m 226 c (nI d) (if (y ^^^ (-2147483648 : Int32)) ≤ (x ^^^ (-2147483648 : Int32)) then 0 else 1)
    by_cases g : (y ^^^ (-2147483648 : Int32)) ≤ (x ^^^ (-2147483648 : Int32))
    · rw [if_pos g, if_pos g, y_bds, if_pos rfl]
    · rw [if_neg g, if_neg g, y_bds, if_neg (by decide)]
  · rw [if_neg (by decide), if_neg (by decide), if_neg (by decide), if_neg (by decide), if_pos (by decide), y_lt]; rfl
  · rw [if_neg (by decide), if_neg (by decide), if_neg (by decide), if_neg (by decide), if_neg (by decide), if_pos (by decide)]
    by_cases g : q = (32 : Int32)
    · rw [if_neg (fun w => (h9.mp w) ⟨g, Or.inl rfl⟩)]; show _ = f_X11_reckon_L305 m 226 c (nI d) (if q = (32 : Int32) then _ else _); rw [if_pos g]
    · rw [if_pos (h9.mpr (fun w => g w.1))]; show _ = f_X11_reckon_L305 m 226 c (nI d) (if q = (32 : Int32) then _ else _); rw [if_neg g]
  · rw [if_neg (by decide), if_neg (by decide), if_neg (by decide), if_neg (by decide), if_neg (by decide), if_neg (by decide), if_pos (by decide), y_lt]; rfl
  · rw [if_neg (by decide), if_neg (by decide), if_neg (by decide), if_neg (by decide), if_neg (by decide), if_neg (by decide), if_neg (by decide), y_lt]; rfl
theorem r_reckon (m : AH) (L : LM m) {c w x y : Int32} {f d : Nat} (h8 : f < 8) (pl : Bool) (hp : pl = true ↔ w &&& (127 : Int32) = (51 : Int32)) :
    (gd pl (jushr w (25 : Int32)) f → f_X11_reckon m 226 c w (nI f) (nI d) x y = f_X11_reckon_L305 m 226 c (nI d) (rv pl (jushr w (25 : Int32)) f x (if pl = true then y else w >>> ((20 : Int32) &&& 31)))) ∧
    (¬ gd pl (jushr w (25 : Int32)) f → f_X11_reckon m 226 c w (nI f) (nI d) x y = bd (f_X11_stops m 226 c (2 : Int32)) fun q4 => some (q4.1, q4.2)) := by
  have e25 := us25 w
  generalize hq : jushr w (25 : Int32) = q at *
  have n5 : ∀ k, k < 2 ^ 31 → (nI f = nI k ↔ f = k) := fun k hk => q_eq (by omega) hk
  have n0 : nI f = (0 : Int32) ↔ f = 0 := n5 0 (by omega)
  have n1 : nI f = (1 : Int32) ↔ f = 1 := n5 1 (by omega)
  have n5' : nI f = (5 : Int32) ↔ f = 5 := n5 5 (by omega)
  -- what L101 does
  have l101 : ∀ (a7 a9 s0 : Int32), (a7 = 0 ↔ pl = false) → (a9 = 0 ↔ ¬ (q = (32 : Int32) ∧ (f = 5 ∨ (pl = true ∧ f = 0)))) → (¬ s0 = 0 → f_X11_reckon_L101 m 226 c w (nI f) (nI d) x y a7 a9 s0 = f_X11_reckon_L305 m 226 c (nI d) (rv pl q f x (if pl = true then y else w >>> ((20 : Int32) &&& 31)))) ∧ (s0 = 0 → f_X11_reckon_L101 m 226 c w (nI f) (nI d) x y a7 a9 s0 = bd (f_X11_stops m 226 c (2 : Int32)) fun q4 => some (q4.1, q4.2)) := by
    intro a7 a9 s0 h7 h9
    unfold f_X11_reckon_L101
    refine ⟨fun g => ?_, fun g => ?_⟩
    · rw [if_pos g]
      by_cases g7 : a7 = 0
      · rw [if_pos g7, r_129 m h8 h7 h9, if_neg (by rw [h7.mp g7]; decide)]
      · have p : pl = true := by cases pl; exact absurd (h7.mpr rfl) g7; rfl
        rw [if_neg g7, r_129 m h8 h7 h9, if_pos p]
    · rw [if_neg (fun w => w g), y_gs, if_pos (lm_S226 L)]
  have l51 : ∀ (a7 a9 : Int32), (a7 = 0 ↔ pl = false) → (a9 = 0 ↔ ¬ (q = (32 : Int32) ∧ (f = 5 ∨ (pl = true ∧ f = 0)))) → (gd pl q f → f_X11_reckon_L51 m 226 c w (nI f) (nI d) x y a7 q a9 = f_X11_reckon_L305 m 226 c (nI d) (rv pl q f x (if pl = true then y else w >>> ((20 : Int32) &&& 31)))) ∧ (¬ gd pl q f → f_X11_reckon_L51 m 226 c w (nI f) (nI d) x y a7 q a9 = bd (f_X11_stops m 226 c (2 : Int32)) fun q4 => some (q4.1, q4.2)) := by
    intro a7 a9 h7 h9
    have one : ¬ (1 : Int32) = 0 := by decide
    have l1 := (l101 a7 a9 1 h7 h9).1 one
    have l0 := (l101 a7 a9 0 h7 h9).2 rfl
    unfold f_X11_reckon_L51 f_X11_reckon_L86 f_X11_reckon_L96 f_X11_reckon_L68 gd
    rw [l1, l0]
    cases pl with
    | true =>
      rw [if_pos rfl, if_neg (fun w => by cases h7.mp w)]
      by_cases g : q = 0
      · rw [if_pos g]; exact ⟨fun _ => rfl, fun w => absurd (Or.inl g) w⟩
      · rw [if_neg g]
        by_cases g9 : a9 = 0
        · rw [if_pos g9]
          have := h9.mp g9
          refine ⟨fun w => ?_, fun _ => rfl⟩
          rcases w with w | w
          · exact absurd w g
          · exfalso; apply this; refine ⟨w.1, ?_⟩
            rcases w.2 with w2 | w2
            · exact Or.inr ⟨rfl, w2⟩
            · exact Or.inl w2
        · rw [if_neg g9]
          refine ⟨fun _ => rfl, fun w => ?_⟩
          exfalso; apply g9; apply h9.mpr; intro w2
          apply w; refine Or.inr ⟨w2.1, ?_⟩
          rcases w2.2 with w3 | w3
          · exact Or.inr w3
          · exact Or.inl w3.2
    | false =>
      rw [if_neg (show ¬ false = true from by decide), if_pos (h7.mpr rfl)]
      have l86 : ¬ (f ≠ 1 ∧ f ≠ 5) → (((f ≠ 1 ∧ f ≠ 5) ∨ q = 0 ∨ (q = (32 : Int32) ∧ f = 5)) → (if q = 0 then f_X11_reckon_L305 m 226 c (nI d) (rv false q f x (if false = true then y else w >>> ((20 : Int32) &&& 31))) else if a9 = 0 then (bd (f_X11_stops m 226 c (2 : Int32)) fun q4 => some (q4.1, q4.2)) else f_X11_reckon_L305 m 226 c (nI d) (rv false q f x (if false = true then y else w >>> ((20 : Int32) &&& 31)))) = f_X11_reckon_L305 m 226 c (nI d) (rv false q f x (if false = true then y else w >>> ((20 : Int32) &&& 31)))) ∧ (¬ ((f ≠ 1 ∧ f ≠ 5) ∨ q = 0 ∨ (q = (32 : Int32) ∧ f = 5)) → (if q = 0 then f_X11_reckon_L305 m 226 c (nI d) (rv false q f x (if false = true then y else w >>> ((20 : Int32) &&& 31))) else if a9 = 0 then (bd (f_X11_stops m 226 c (2 : Int32)) fun q4 => some (q4.1, q4.2)) else f_X11_reckon_L305 m 226 c (nI d) (rv false q f x (if false = true then y else w >>> ((20 : Int32) &&& 31)))) = bd (f_X11_stops m 226 c (2 : Int32)) fun q4 => some (q4.1, q4.2)) := by
        intro hn
        by_cases g : q = 0
        · rw [if_pos g]; exact ⟨fun _ => rfl, fun w => absurd (Or.inr (Or.inl g)) w⟩
        · rw [if_neg g]
          by_cases g9 : a9 = 0
          · rw [if_pos g9]
            have := h9.mp g9
            refine ⟨fun w => ?_, fun _ => rfl⟩
            rcases w with w | w | w
            · exact absurd w hn
            · exact absurd w g
            · exact absurd ⟨w.1, Or.inl w.2⟩ this
          · rw [if_neg g9]
            refine ⟨fun _ => rfl, fun w => ?_⟩
            exfalso; apply g9; apply h9.mpr; intro w2
            apply w
            rcases w2.2 with w3 | w3
            · exact Or.inr (Or.inr ⟨w2.1, w3⟩)
            · cases w3.1
      by_cases g1 : f = 1
      · rw [if_pos (n1.mpr g1)]; exact l86 (by omega)
      · rw [if_neg (fun w => g1 (n1.mp w))]
        by_cases g5 : f = 5
        · rw [if_neg (fun w => w (n5'.mpr g5))]; exact l86 (by omega)
        · rw [if_pos (fun w => g5 (n5'.mp w))]; exact ⟨fun _ => rfl, fun w => absurd (Or.inl ⟨g1, g5⟩) w⟩
  have l14 : ∀ a7 : Int32, (a7 = 0 ↔ pl = false) → (gd pl q f → f_X11_reckon_L14 m 226 c w (nI f) (nI d) x y a7 = f_X11_reckon_L305 m 226 c (nI d) (rv pl q f x (if pl = true then y else w >>> ((20 : Int32) &&& 31)))) ∧ (¬ gd pl q f → f_X11_reckon_L14 m 226 c w (nI f) (nI d) x y a7 = bd (f_X11_stops m 226 c (2 : Int32)) fun q4 => some (q4.1, q4.2)) := by
    intro a7 h7
    unfold f_X11_reckon_L14 f_X11_reckon_L50 f_X11_reckon_L46
    rw [y_lt, ← e25]
    have z0 := fun (h : ¬ (q = (32 : Int32) ∧ (f = 5 ∨ (pl = true ∧ f = 0)))) => l51 a7 0 h7 ⟨fun _ => h, fun _ => rfl⟩
    have z1 := fun (h : q = (32 : Int32) ∧ (f = 5 ∨ (pl = true ∧ f = 0))) => l51 a7 1 h7 ⟨fun w => absurd w (by decide), fun w => absurd h w⟩
    by_cases g : q = (32 : Int32)
    · rw [if_neg (fun w => w g)]
      by_cases g5 : f = 5
      · rw [if_pos (n5'.mpr g5)]; exact z1 ⟨g, Or.inl g5⟩
      · rw [if_neg (fun w => g5 (n5'.mp w))]
        by_cases g7 : a7 = 0
        · rw [if_pos g7]; exact z0 (fun w => by rcases w.2 with w | w; exact g5 w; rw [h7.mp g7] at w; cases w.1)
        · have p : pl = true := by cases pl; exact absurd (h7.mpr rfl) g7; rfl
          rw [if_neg g7]
          by_cases g0 : f = 0
          · rw [if_neg (fun w => w (n0.mpr g0))]; exact z1 ⟨g, Or.inr ⟨p, g0⟩⟩
          · rw [if_pos (fun w => g0 (n0.mp w))]; exact z0 (fun w => by omega)
    · rw [if_pos g]; exact z0 (fun w => g w.1)
  unfold f_X11_reckon
  cases pl with
  | true => rw [if_neg (fun w => w (hp.mp rfl))]; exact l14 1 ⟨fun w => absurd w (by decide), fun w => by cases w⟩
  | false => rw [if_pos (fun w => by cases hp.mpr w)]; exact l14 0 ⟨fun _ => rfl, fun _ => rfl⟩
