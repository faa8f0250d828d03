/-! The house as it is when it has begun anew. -/
def sNew (s : St) (z t23 : Nat → Nat) (mem : Nat → W4) : St :=
  (fun F i => if F = 0 then z i else if F = 9 then N s 9 i else if F = 17 then N s 17 i else if F = 21 then N s 21 i else if F = 23 then t23 i else 0, fun F i => if F = 0 ∨ F = 1 then mem i else Wda s F i, [], [])
theorem sNew_z {s : St} {z t23 : Nat → Nat} {mem : Nat → W4} {F i : Nat} (h : F ≠ 0 ∧ F ≠ 9 ∧ F ≠ 17 ∧ F ≠ 21 ∧ F ≠ 23) : N (sNew s z t23 mem) F i = 0 := by
  show (if F = 0 then z i else if F = 9 then N s 9 i else if F = 17 then N s 17 i else if F = 21 then N s 21 i else if F = 23 then t23 i else 0) = 0
  rw [if_neg h.1, if_neg h.2.1, if_neg h.2.2.1, if_neg h.2.2.2.1, if_neg h.2.2.2.2]
theorem sNew_0 (s : St) (z t23 : Nat → Nat) (mem : Nat → W4) (i : Nat) : N (sNew s z t23 mem) 0 i = z i := rfl
theorem IV_new {s : St} {z t23 : Nat → Nat} {mem : Nat → W4} {b : Nat} (I : IV s b) (Z6 : szs z) : IV (sNew s z t23 mem) b := by
  obtain ⟨⟨B, hb⟩, LW, M, LL, ⟨Rn1, Rn2, Rn3, Rn4⟩, Q, W, D, O1, O2, O3, O4, O5, O6, O7, O8⟩ := I
  have z0 : ∀ {F i : Nat}, F ≠ 0 ∧ F ≠ 9 ∧ F ≠ 17 ∧ F ≠ 21 ∧ F ≠ 23 → N (sNew s z t23 mem) F i = 0 := fun h => sNew_z h
  have hw : ∀ l, hWay (sNew s z t23 mem) l = none := fun l => fst_none.mpr (fun j _ _ => decide_eq_false (by rw [z0 (by omega)]; omega))
  have sw : ∀ c l, sWay (sNew s z t23 mem) c l = none := fun c l => fst_none.mpr (fun j _ _ => by rw [z0 (F := 2) (by omega)]; rfl)
  have mz : ∀ κ, mm (sNew s z t23 mem) κ = none := fun κ => rfl
  have tk0 : ∀ l c, tk (sNew s z t23 mem) l c = 0 := fun l c => by unfold tk; rw [mz]; split <;> rfl
  have vS0 : ∀ l c, vS (sNew s z t23 mem) l c = 0 := fun l c => by unfold vS; rw [sw]; split <;> rfl
  have vR0 : ∀ c, vR (sNew s z t23 mem) c = 0 := fun c => by unfold vR; rw [z0 (by omega)]; split <;> rfl
  have vF0 : ∀ c, vF (sNew s z t23 mem) c = 0 := fun c => by unfold vF; rw [z0 (by omega)]; split <;> rfl
  have vX0 : ∀ l, vX (sNew s z t23 mem) l = 0 := fun l => by unfold vX; rw [hw]
  have hv0 : ∀ l F, hv (sNew s z t23 mem) l F = 0 := fun l F => by unfold hv; rw [hw]
  have vQ0 : ∀ c, vQ (sNew s z t23 mem) c = 0 := fun c => by unfold vQ; rw [if_neg (fun q => q.2 (mz c))]
  have cnR : cn (vR (sNew s z t23 mem)) 16 = 0 := cn_zero.mpr (fun c _ => vR0 c)
  have cnQ : cn (vQ (sNew s z t23 mem)) 16 = 0 := cn_zero.mpr (fun c _ => vQ0 c)
  have no : ∀ x, ¬ x ∈ Z (sNew s z t23 mem) := fun x h => by cases h
  refine ⟨⟨Z6, hb⟩, ⟨⟨fun k _ h => absurd (z0 (by omega)) h, fun k k' _ _ h => absurd (z0 (by omega)) h⟩, ⟨fun k _ h => absurd (z0 (by omega)) h, fun k k' _ _ h => absurd (z0 (by omega)) h⟩⟩, ⟨trivial, fun x h => absurd h (no x), fun x h => by cases h⟩, fun l hl => ?_, ⟨fun k hk => ?_, fun c hc => ?_, fun k _ h => absurd (z0 (by omega)) h, fun k _ _ => z0 (by omega)⟩, fun x h => absurd h (no x), fun c l _ h => ?_, ⟨fun l k h => ?_, fun l _ _ => rfl, fun l k h => ?_, fun x h => absurd h (no x), fun k _ h => absurd (z0 (by omega)) h, fun c l _ h => ?_, fun l k c h => ?_⟩, ?_⟩
  · unfold LIs
    have e1 : tk (sNew s z t23 mem) l = fun _ => 0 := funext (tk0 l)
    have e2 : vS (sNew s z t23 mem) l = fun _ => 0 := funext (vS0 l)
    have e3 : vR (sNew s z t23 mem) = fun _ => 0 := funext vR0
    have e4 : vF (sNew s z t23 mem) = fun _ => 0 := funext vF0
    rw [e1, e2, e3, e4, vX0, hv0, hv0, hv0, hv0]
    unfold LI
    simp
  · obtain ⟨a1, a2, a3, a4, a5, a6, a7, a8, a9, a10, a11, a12, a13⟩ := Rn1 k hk
    rw [z0 (F := 1) (by omega), z0 (F := 2) (by omega), z0 (F := 3) (by omega), z0 (F := 4) (by omega), z0 (F := 5) (by omega), z0 (F := 6) (by omega), z0 (F := 7) (by omega), z0 (F := 8) (by omega), z0 (F := 10) (by omega), z0 (F := 11) (by omega)]
    exact ⟨by omega, by omega, by omega, by omega, by omega, by omega, by omega, by omega, a9, by omega, by omega, a12, Nat.le_refl _⟩
  · rw [z0 (F := 12) (by omega), z0 (F := 13) (by omega), z0 (F := 14) (by omega)]
    exact ⟨by omega, by omega, by omega, fun _ => ⟨rfl, rfl⟩⟩
  · rw [z0 (F := 12) (by omega)] at h; omega
  · rw [hw] at h; cases h
  · rw [hw] at h; cases h
  · rw [z0 (F := 13) (by omega)] at h; omega
  · rw [hw] at h; cases h
  · refine ⟨fun k k' _ _ h => absurd (z0 (by omega)) h, fun k _ h => absurd (z0 (by omega)) h, fun k k' _ _ _ _ h => absurd (z0 (by omega)) h, fun k _ _ h => absurd (z0 (by omega)) h, ?_, ?_, fun c hc => ?_, ?_⟩
    · rw [cnR, z0 (F := 16) (by omega)]; omega
    · rw [cnQ]
      show N s 17 0 + 0 ≤ b; omega
    · rw [z0 (F := 22) (by omega)]; omega
    · rw [z0 (F := 24) (by omega)]; omega
theorem CN_new (s : St) (z t23 : Nat → Nat) (mem : Nat → W4) : CN (sNew s z t23 mem) := by
  refine ⟨?_, fun c _ => sNew_z (by omega)⟩
  rw [sNew_z (by omega)]
  have : ∀ n, sg (N (sNew s z t23 mem) 25) n = 0 := fun n => by
    have := sg_le (f := N (sNew s z t23 mem) 25) (a := 0) n (fun j => by rw [sNew_z (by omega)]; omega)
    omega
  rw [this]
theorem nI_n (x : Int32) : nI x.toBitVec.toNat = x := by
  apply Int32.toBitVec_inj.mp
  apply BitVec.eq_of_toNat_eq
  show (BitVec.ofNat 32 x.toBitVec.toNat).toNat = _
  rw [BitVec.toNat_ofNat, Nat.mod_eq_of_lt x.toBitVec.isLt]
/-- four words of a row -/
def mem4 (f : Nat → Int32) (l : Nat) : W4 := (f (4 * l), f (4 * l + 1), f (4 * l + 2), f (4 * l + 3))
theorem mem4_w (f : Nat → Int32) (l : Nat) {j : Nat} (hj : j < 4) : w4 (mem4 f l) j = f (4 * l + j) := by
  rcases lt4 hj with rfl | rfl | rfl | rfl <;> rfl
def t23w (h : AH) (z : Nat → Nat) (k : Nat) : Nat := (hI h 28 (k / 8 * z 5 + k % 8)).toBitVec.toNat
theorem RC_new {h hF : AH} {s : St} {z : Nat → Nat} {f : Nat → Int32} {st : Nat → Int32} (R : RC h s) (Z6 : szs z) (e2 : hF.2.2 = h.2.2) (kp : ∀ c, c < 16 → hI hF (34 + 12 * c) 0 = hI h (34 + 12 * c) 0 ∧ (∀ j, j < 4 → hI hF (45 + 12 * c) j = hI h (45 + 12 * c) j) ∧ (∀ j, j < 32 → hI hF (41 + 12 * c) j = hI h (41 + 12 * c) j) ∧ (∀ j, j < 128 → hI hF (42 + 12 * c) j = hI h (42 + 12 * c) j))
    (cf : ∀ c, c < 16 → CF hF c (st c) (nI (z 1)) (nI (z 2)) (nI (z 3))) (h32 : ∀ i, i < 6 → hI hF 32 i = nI (z i)) (h16 : hI hF 16 1 = 0 ∧ hI hF 16 2 = 0) (h19 : hI hF 19 12 = 0 ∧ hI hF 19 13 = nI (z 4) ∧ hI hF 19 14 = nI (z 5) ∧ hI hF 19 15 = 0 ∧ hI hF 19 16 = 0) (h20 : ∀ j, j < 2048 → hI hF 20 j = f j) (h21 : ∀ j, j < 512 → hI hF 21 j = (-1 : Int32) ∧ hI hF 24 j = (-1 : Int32)) :
    RC hF (sNew s z (t23w hF z) (mem4 f)) ∧ DZ hF (sNew s z (t23w hF z) (mem4 f)) := by
  have z0 : ∀ {F i : Nat}, F ≠ 0 ∧ F ≠ 9 ∧ F ≠ 17 ∧ F ≠ 21 ∧ F ≠ 23 → N (sNew s z (t23w hF z) (mem4 f)) F i = 0 := fun h => sNew_z h
  obtain ⟨⟨L, Z⟩, Rs, Rk, Rc, Rh, Rm', Rp, Rq'⟩ := R
  have LF : LC hF := LC_2 L e2
  have eR : ∀ o k, hR hF o k = hR h o k := fun o k => by show hF.2.2.1 o k = h.2.2.1 o k; rw [e2]
  have eS : ∀ o, hS hF o = hS h o := fun o => by show hF.2.2.2.1 o = h.2.2.2.1 o; rw [e2]
  have eN : ∀ o, hN hF o = hN h o := fun o => by show hF.2.2.2.2.1 o = h.2.2.2.2.1 o; rw [e2]
  have eZ : hZ hF = hZ h := by show hF.2.2.2.2.2.1 = h.2.2.2.2.2.1; rw [e2]
  refine ⟨⟨⟨LF, by rw [eZ]; exact Z⟩, ⟨h32, h19.2.1, h19.2.2.1, ?_, ?_, ?_⟩, fun c hc => ?_, fun c i hc hi => ?_, fun a b ha hb => ?_, fun l j hl hj => ?_, ?_, ?_⟩, fun k _ h4 => absurd (z0 (by omega)) h4⟩
  · rw [z0 (by omega)]; exact h19.2.2.2.1
  · rw [z0 (by omega)]; exact h19.2.2.2.2
  · rw [z0 (by omega)]; exact h16.2
  · obtain ⟨k1, k2, k3, k4⟩ := kp c hc
    obtain ⟨f1, f2, f3, f4, f5, f6, f7⟩ := cf c hc
    obtain ⟨r1, r2, r3, r4, r5, r6, r7, r8, r9, r10⟩ := Rk c hc
    rw [z0 (F := 22) (by omega), z0 (F := 13) (by omega), z0 (F := 12) (by omega), z0 (F := 15) (by omega), z0 (F := 25) (by omega), k1]
    exact ⟨f4.1, f4.2.1, f4.2.2, r4, f7.1, fun q => absurd rfl q, f7.2.2.1, f7.2.2.2.1, f7.2.2.2.2.2.2, fun j hj => by rw [k2 j hj]; exact r10 j hj⟩
  · obtain ⟨k1, k2, k3, k4⟩ := kp c hc
    obtain ⟨f1, f2, f3, f4, f5, f6, f7⟩ := cf c hc
    obtain ⟨r1, r2, r3, r4⟩ := Rc c i hc hi
    refine ⟨by rw [z0 (by omega)]; exact f5 i hi, fun q => absurd (z0 (by omega)) q, ?_, fun j hj => ?_⟩
    · rw [k3 i hi]; exact r3
    · rw [k4 _ (by omega)]; exact r4 j hj
  · have ha' : a < z 4 := ha
    have hb' : b < z 5 := hb
    have w512 : a * z 5 + z 5 ≤ 512 := mul_lt_512 (H := z 4) ha' (by rcases p2_cases6 Z6.2.2.2.2.1.choose_spec.1 Z6.2.2.2.2.1.choose_spec.2 with q | q | q | q | q | q | q <;> omega) Z6.2.2.2.2.2.1.2
    have b8 : b < 8 := by have := Z6.2.2.2.2.2.1.2; omega
    have e8 : (8 * a + b) / 8 = a := by omega
    have e9 : (8 * a + b) % 8 = b := by omega
    obtain ⟨q1, q2⟩ := h21 (a * z 5 + b) (by omega)
    refine ⟨?_, ?_, ?_, fun q => absurd (z0 (by omega)) q⟩
    · rw [z0 (F := 4) (by omega)]; exact q1
    · rw [z0 (F := 8) (by omega)]; exact q2
    · show hI hF 28 (a * z 5 + b) = nI (t23w hF z (8 * a + b))
      unfold t23w
      rw [e8, e9, nI_n]
  · show hI hF 20 (4 * l + j) = w4 (mem4 f l) j
    rw [h20 _ (by omega), mem4_w f l hj]
  · obtain ⟨p1, p2', p3, p4, p5, p6, p7, p8⟩ := Rp
    refine ⟨h16.1, ?_, ?_, ?_, ?_, ?_, ?_, fun i j hi => absurd hi (Nat.not_lt_zero i)⟩
    · rw [eR, eS]; exact p2'
    · rw [eR]; exact p3
    · rw [eR, eZ]; exact p4
    · rw [eR, eN]; exact p5
    · rw [eR, eN]; exact p6
    · exact Nat.zero_le _
  · exact ⟨h19.1, fun i j hi => absurd hi (Nat.not_lt_zero i)⟩
