/-! A read in both. -/
theorem amin_congr {f g : Nat → Nat} (n : Nat) : ∀ (k i : Nat), (∀ j j', (j = k ∨ (i ≤ j ∧ j < i + n)) → (j' = k ∨ (i ≤ j' ∧ j' < i + n)) → (f j < f j' ↔ g j < g j')) → amin f k i n = amin g k i n := by
  induction n with
  | zero => intro k i _; rfl
  | succ n ih =>
    intro k i h
    unfold amin
    have e := h i k (Or.inr (by omega)) (Or.inl rfl)
    have ec : (if f i < f k then i else k) = (if g i < g k then i else k) := by
      by_cases c : f i < f k
      · rw [if_pos c, if_pos (e.mp c)]
      · rw [if_neg c, if_neg (fun w => c (e.mpr w))]
    rw [ec]
    refine ih _ _ (fun j j' hj hj' => h j j' ?_ ?_)
    · rcases hj with w | w
      · rw [w]; split
        · exact Or.inr (by omega)
        · exact Or.inl rfl
      · exact Or.inr (by omega)
    · rcases hj' with w | w
      · rw [w]; split
        · exact Or.inr (by omega)
        · exact Or.inl rfl
      · exact Or.inr (by omega)
theorem amin_self (f : Nat → Nat) (k n : Nat) (h : 0 < n) : amin f k k n = amin f k (k + 1) (n - 1) := by
  cases n with
  | zero => omega
  | succ n =>
    show amin f (if f k < f k then k else k) (k + 1) n = _
    rw [if_neg (by omega)]; rfl
theorem IV_slot {s : St} {b c l : Nat} (I : IV s b) (hc : c < 16) (h : sFree s c l = none) : sSlot s c l = sLru s c l ∧ (1 < N s 2 (sLru s c l) → Wda s 4 (sLru s c l) = Wda s 0 (N s 1 (sLru s c l))) := by
  obtain ⟨⟨B, hb⟩, ⟨L, W4'⟩, M, LL, Rg, Q, W, D, O1, O2, O3, O4, O5, O6, O7, O8⟩ := I
  have hse := sSet_le B c l
  have hlr := sLru_lt B c l
  have ne : ∀ j, sSet s c l ≤ j → j < sSet s c l + N s 0 3 → N s 2 j ≠ 0 := by
    intro j h1 h2
    have := fst_none.mp h j h1 h2
    simpa using this
  refine ⟨?_, fun _ => D.2.2.2.2.1 _ (by omega) (ne _ hlr.1 hlr.2)⟩
  unfold sSlot sLru
  rw [h]
  show amin (N s 21) (sSet s c l) (sSet s c l) (N s 0 3) = _
  rw [amin_self _ _ _ (by omega)]
  refine amin_congr _ _ _ (fun j j' hj hj' => ?_)
  have hj2 : sSet s c l ≤ j ∧ j < sSet s c l + N s 0 3 := by omega
  have hj3 : sSet s c l ≤ j' ∧ j' < sSet s c l + N s 0 3 := by omega
  exact (O1 j j' (by omega) (by omega) (ne _ hj2.1 hj2.2) (ne _ hj3.1 hj3.2) (by omega)).symm
theorem and_m4 {n : Nat} (h : n < 2 ^ 31) : nI n &&& (-4 : Int32) = nI (4 * (n / 4)) := by
  refine bt_ext (fun i hi => ?_)
  have c : bt (-4 : Int32) i = decide (2 ≤ i) := by revert hi; revert i; decide +kernel
  rw [bt_and, bt_nI _ _ hi, bt_nI _ _ hi, c, show 4 * (n / 4) = (n / 2 ^ 2) * 2 ^ 2 from by omega, Nat.testBit_mul_two_pow, Nat.testBit_div_two_pow]
  by_cases e : 2 ≤ i
  · simp only [e, decide_true, Bool.and_true, Bool.true_and]; rw [show i - 2 + 2 = i by omega]
  · simp [e]
theorem sMiss_N {s : St} {c l kd F j : Nat} (h : F = 0 ∨ F = 4 ∨ F = 8 ∨ F = 19 ∨ F = 25) : N (sMiss s c l kd) F j = N s F j := by
  have rq : ∀ t, N (sReq t c l kd) F j = N t F j := by
    intro t; unfold sReq; rw [N_ne (by omega), N_ne (by omega), N_post]
  unfold sMiss
  split
  · rfl
  · split
    · exact rq s
    · split
      · split
        · rfl
        · rw [rq, N_ne (by omega)]; unfold sShelve; rw [N_post, N_uW, N_ne (by omega), N_ne (by omega)]
      · rw [rq, N_ne (by omega)]
theorem sUse_N {s : St} {k F j : Nat} (h : F = 0 ∨ F = 1 ∨ F = 2 ∨ F = 4 ∨ F = 8 ∨ F = 19 ∨ F = 25) : N (sUse s k) F j = N s F j := by
  unfold sUse; rw [N_ne (by omega), N_ne (by omega), N_ne (by omega), N_ne (by omega)]
theorem Rel_lim {h m : AH} {s : St} {e : Ex} {b : Nat} (R : Rel h m s e b) : N s 0 1 ≤ 16 := R.2.2.1.1.1.2.1.2
/-- what is noted for a trace stays -/
def TF (m m' : AH) : Prop := ∀ k, (40 ≤ k ∧ k ≤ 43) ∨ k = 78 → hI m' 226 k = hI m 226 k
theorem TF_Fr {m m' : AH} (F : Fr m m') : TF m m' := fun k hk => by
  have := irr_x (o := 226) (k := k) (by omega)
  exact F.2 226 k this.1 this.2.1 this.2.2
/-- both miss -/
theorem miss_both {h m : AH} {s : St} {e : Ex} {b c l kd : Nat} (R : Rel h m s e b) (hc : c < N s 0 0) (hl : l < 512) (hk : kd ≤ 1) (hs : vS s l c ≤ 1) (hb : b + 1 ≤ 536870912) :
    ∃ h' m', f_X3_miss h (34 + 12 * c) (nI l) (nI kd) = some h' ∧ f_X11_miss m 226 (nI c) (nI l) (if kd = 0 then nI 1 else nI 3) = some m' ∧ Rel h' m' (sMiss s c l kd) e (b + 1) ∧ Bd h h' ∧ m'.2 = m.2 ∧ TF m m' := by
  obtain ⟨⟨RC', D⟩, RM', I, C, X⟩ := R
  have b0 := I.1.1.1.2
  have len := IV_len I
  obtain ⟨h', e1, r1, f1⟩ := c_miss (kd := kd) RC' (IV_Bz I) (IV_Rg I) (IV_21 I) (IV_1 I) (show c < 16 by omega) hl (by omega) (fun g => (IV_slot I (by omega) g).1) (fun g => (IV_slot I (by omega) g).2)
  obtain ⟨m', e2, r2, f2⟩ := r_miss RM' (IV_Bz I) (IV_Rg I) (IV_1 I) (show c < 16 by omega) hl hk (by omega)
  refine ⟨h', m', e1, e2, ⟨⟨r1, DZ_D D f1.2 (fun _ => sMiss_N (by omega)) (fun _ => sMiss_N (by omega)) (fun _ => sMiss_N (by omega))⟩, r2, IV_miss I hc hl hk hs hb, CN_of C (sMiss_N (by omega)) (sMiss_N (by omega)) (fun _ => sMiss_N (by omega)), EX_fr X f1.1 f2 (fun _ => sMiss_N (by omega)) (by omega) (by have := I.1.1.2.1.2; omega)⟩, Bd_C f1.1, f2.1, TF_Fr f2⟩
theorem oI_ge (o : Option Nat) (h : ∀ k, o = some k → k < 2 ^ 31) : (0 ≤ oI o) ↔ o ≠ none := by
  cases o with
  | none =>
    rw [oI_n]
    constructor
    · intro g; exact absurd g (by decide)
    · intro g; exact absurd rfl g
  | some k =>
    rw [oI_s]
    exact ⟨fun _ g => (by cases g), fun _ => Int32.not_lt.mp (lt0 (h k rfl))⟩
theorem c_got {h : AH} {s : St} {e : Ex} {m : AH} {b c A n : Nat} {w : Int32} (R : RC h s) (X : EX h m s e b) (hc : c < 16) (hl : N s 0 1 ≤ 16) (hA : A < 2048) (hn : n = e 2 c) :
    f_X3_reads_L68 h (34 + 12 * c) (nI (4 * A)) w = some (nI 1, sI h (34 + 12 * c) 16 (ov (fun i => e 3 (16 * c + i)) (fun i => e 4 (16 * c + i)) (fun i => hI m 251 (16 * c + i)) A w n)) := by
  have L := RC_L R
  have Xc := X.1 c hc
  have x10 := Xc.2.2.2.1.2.2.1
  unfold f_X3_reads_L68
  rw [y_gs, if_pos (lk_S34 L hc), lk_R34_5 L hc, y_gs, if_pos (lk_S36 L hc)]
  unfold f_X7_over
  have := c_over (w := w) L Xc hc hl hA (e 2 c) 0 (FU - (e 2 c + 1)) (by omega)
  rw [show FU - (e 2 c + 1) + (e 2 c + 1) = FU from by unfold FU; omega] at this
  rw [y_lt, show (0 : Int32) = nI 0 from rfl]
  have e0 : ov (fun i => e 3 (16 * c + i)) (fun i => e 4 (16 * c + i)) (fun i => hI m 251 (16 * c + i)) A w 0 = w := rfl
  rw [e0] at this
  rw [this, y_bds, y_lt, hn]; rfl
theorem reads_both {h m : AH} {s : St} {e : Ex} {b c A nd a : Nat} (R : Rel h m s e b) (hc : c < N s 0 0) (hA : A < 2048) (hn : nd < 16) (ha : a < 8192) (haA : a / 4 = A) (hb : b + 1 ≤ 536870912) :
    ∃ h' m' s', (Rel h' m' s' e (b + 1) ∧ Bd h h' ∧ m'.2 = m.2 ∧ (∀ i, N s' 0 i = N s 0 i) ∧ TF m m') ∧
      ((f_X3_reads h (34 + 12 * c) (nI (4 * A)) (nI nd) = some (nI 0, h') ∧ f_X11_reads m 226 (nI c) (nI a) (nI nd) = some (nI 0, m')) ∨
       (f_X3_reads h (34 + 12 * c) (nI (4 * A)) (nI nd) = some (nI 1, h') ∧ f_X11_reads m 226 (nI c) (nI a) (nI nd) = some (nI 1, m') ∧ hI m' 226 77 = hI h' (34 + 12 * c) 16 &&& BB nd)) := by
  have R0 := R
  obtain ⟨⟨RC', D⟩, RM', I, C, X⟩ := R
  have b0 := I.1.1.1.2
  have lim := Rel_lim R0
  have c16 : c < 16 := by omega
  have L := RC_L RC'
  have LM' := rm_L RM'
  have Xc := X.1 c c16
  obtain ⟨_, _, _, ⟨x8, x9, x10, _⟩, x12, _⟩ := id Xc
  have hst : ∀ i, i < e 2 c → e 4 (16 * c + i) < 16 ∧ hI m 251 (16 * c + i) &&& (BB (e 4 (16 * c + i)) ^^^ (-1 : Int32)) = 0 := fun i hi => ⟨(x12 i hi).2.2.2.2.2.1, (x12 i hi).2.2.2.2.2.2.2⟩
  have re := fun w => read_eq (sa := fun i => e 3 (16 * c + i)) (sb := fun i => e 4 (16 * c + i)) (sd := fun i => hI m 251 (16 * c + i)) (A := A) (w := w) (n := e 2 c) (nd := nd) hn hst
  have bl : bA (fun i => e 3 (16 * c + i)) (fun i => e 4 (16 * c + i)) A (e 2 c) < 16 := bA_lt _ (fun i hi => (hst i hi).1)
  -- the class up to the test
  have hcl : f_X3_reads h (34 + 12 * c) (nI (4 * A)) (nI nd) = (if nI (nd &&& (15 ^^^ bA (fun i => e 3 (16 * c + i)) (fun i => e 4 (16 * c + i)) A (e 2 c))) = 0 then f_X3_reads_L68 h (34 + 12 * c) (nI (4 * A)) (0 : Int32) else
      gs h (hR h (34 + 12 * c) 6) 2 <| bd (f_X2_find h (hR h (34 + 12 * c) 6) (nI (4 * A) >>> ((4 : Int32) &&& 31))) fun v7 =>
        if 0 ≤ v7 then bd (f_X2_use h (hR h (34 + 12 * c) 6) v7) fun q9 => gs q9 (34 + 12 * c) 3 <| gs q9 (hR q9 (34 + 12 * c) 6) 2 <| bd (f_X10_wordOf q9 v7 (nI (4 * A))) fun v12 => gs q9 (hR q9 (hR q9 (34 + 12 * c) 6) 3) 21 <| gb (ib v12 (hN q9 (hR q9 (hR q9 (34 + 12 * c) 6) 3))) <| lt ((hI q9 (hR q9 (hR q9 (34 + 12 * c) 6) 3) v12.toNatClampNeg)) fun x15 => f_X3_reads_L68 q9 (34 + 12 * c) (nI (4 * A)) x15
        else bd (f_X3_miss h (34 + 12 * c) (nI (4 * A) >>> ((4 : Int32) &&& 31)) (0 : Int32)) fun q16 => some ((0 : Int32), q16)) := by
    unfold f_X3_reads
    have := c_bytesAt L Xc c16 lim hA (e 2 c) 0 (FU - (e 2 c + 1)) (by omega)
    rw [show FU - (e 2 c + 1) + (e 2 c + 1) = FU from by unfold FU; omega] at this
    unfold f_X7_bytesAt
    rw [y_lt, y_gs, if_pos (lk_S34 L c16), lk_R34_5 L c16, y_gs, if_pos (lk_S36 L c16), y_lt, y_lt]
    have e0 : nI (bA (fun i => e 3 (16 * c + i)) (fun i => e 4 (16 * c + i)) A 0) = (0 : Int32) := rfl
    rw [e0, show nI 0 = (0 : Int32) from rfl] at this
    rw [this, y_bds, (n4_not nd hn _ bl).2]
  -- the reference up to the test
  have hrm : f_X11_reads m 226 (nI c) (nI a) (nI nd) = f_X11_reads_L24 ((FU - (e 2 c + 1)) + 1) (sI m 226 77 (rr (fun i => e 3 (16 * c + i)) (fun i => e 4 (16 * c + i)) (fun i => hI m 251 (16 * c + i)) A (e 2 c) 0 nd).1) 226 (nI c) (nI (4 * A)) (nI (nd &&& (15 ^^^ bA (fun i => e 3 (16 * c + i)) (fun i => e 4 (16 * c + i)) A (e 2 c)))) (pI 0) := by
    unfold f_X11_reads
    have L2 : LM (sI m 226 77 (0 : Int32)) := LM'
    rw [y_lt, y_gs, if_pos (lm_S226 LM'), y_lt, lm_R30 L2, y_gs, if_pos (lm_S248 L2), lm_N248 L2, y_gb, if_pos (q_ib c16 (by omega)), y_lt, q_cl (show c < 2 ^ 31 by omega), x_ne (by omega), x9, pI_sub, and_m4 (show a < 2 ^ 31 by omega), haA]
    have := r_readsLoop LM' Xc c16 lim hA (e 2 c) 0 nd (FU - (e 2 c + 1)) (Nat.le_refl _) hn
    rw [show FU - (e 2 c + 1) + (e 2 c + 1) = FU from by unfold FU; omega] at this
    rw [this, (re 0).2]
  generalize hlf : nd &&& (15 ^^^ bA (fun i => e 3 (16 * c + i)) (fun i => e 4 (16 * c + i)) A (e 2 c)) = lf at *
  have lf16 : lf < 16 := by rw [← hlf]; exact (n4_not nd hn _ bl).1
  generalize hrd : (rr (fun i => e 3 (16 * c + i)) (fun i => e 4 (16 * c + i)) (fun i => hI m 251 (16 * c + i)) A (e 2 c) 0 nd).1 = rd at *
  have RM1 : RM (sI m 226 77 rd) s := RM_o RM' rd rfl
  have LM1 : LM (sI m 226 77 rd) := LM'
  have l512 : A / 4 < 512 := by omega
  have sh4 : nI (4 * A) >>> ((4 : Int32) &&& 31) = nI (A / 4) := by
    rw [show ((4 : Int32) &&& 31) = nI 4 from by decide, q_shr (by omega) (by omega)]
    congr 1; omega
  have m77 : ∀ v, m.2 = (sI m 226 77 v).2 := fun _ => rfl
  have setgot : ∀ (h1 : AH) (v : Int32), ∀ o k, ¬ xo o k → hI (sI h1 (34 + 12 * c) 16 v) o k = hI h1 o k := by
    intro h1 v o k g
    refine x_ne (fun w => g ?_)
    unfold xo; omega
  have exgot : ∀ (h1 m1 : AH) (s1 : St) (b1 : Nat) (v w : Int32), EX h1 m1 s1 e b1 → N s1 0 1 ≤ 16 → EX (sI h1 (34 + 12 * c) 16 v) (sI m1 226 77 w) s1 e b1 := by
    intro h1 m1 s1 b1 v w X1 hl1
    refine ⟨fun d hd => EXc_of (X1.1 d hd) hd (fun o k ho => x_ne (by omega)) (fun k => Or.inl (x_ne (by omega))) (fun o ho => x_ne (by omega)) (fun o k ho _ => x_ne (by omega)) (fun k _ j _ => x_ne (by omega)) (Nat.le_refl _) hl1, EXg_of X1.2 (fun o k ho => x_ne (by omega)) (fun o k ho => x_ne (by omega))⟩
  have mres : ∀ f, f_X11_reads_L24 (f + 1) (sI m 226 77 rd) 226 (nI c) (nI (4 * A)) (nI lf) (pI 0) = (if lf = 0 then some ((1 : Int32), sI m 226 77 rd) else
      bd (f_X11_wayOf (sI m 226 77 rd) 226 (nI c) (nI (A / 4))) fun v4 =>
        if ¬ v4 = (-1 : Int32) then
          bd (f_X11_use (sI m 226 77 rd) 226 v4) fun q6 =>
          gs q6 226 10 <| gs q6 (hR q6 226 23) 21 <| gb (ib (nI A) (hN q6 (hR q6 226 23))) <| bd (f_X11_maskOf q6 (nI lf)) fun v10 => lt (sI q6 226 77 ((hI q6 226 77) ||| ((hI q6 (hR q6 226 23) (nI A).toNatClampNeg) &&& v10))) fun h11 => some ((1 : Int32), h11)
        else bd (f_X11_miss (sI m 226 77 rd) 226 (nI c) (nI (A / 4)) (1 : Int32)) fun q12 => some ((0 : Int32), q12)) := by
    intro f
    conv => lhs; unfold f_X11_reads_L24
    have d16 : nI (4 * A) / (16 : Int32) = nI (A / 4) := by
      rw [show (16 : Int32) = nI 16 from rfl, q_div (by omega) (by omega)]; congr 1; omega
    have d4 : nI (4 * A) / (4 : Int32) = nI A := by
      rw [show (4 : Int32) = nI 4 from rfl, q_div (by omega) (by omega)]; congr 1; omega
    rw [if_pos (show pI 0 < 0 from by decide)]
    by_cases z : lf = 0
    · rw [if_pos z, if_neg (fun g => g (by rw [z]; rfl))]
    · have nz : ¬ nI lf = 0 := fun g => z ((q_eq (by omega) (show 0 < 2 ^ 31 by omega)).mp g)
      rw [if_neg z, if_pos nz, y_gs, if_pos (lm_S226 LM1), d16, d4]
  rw [hcl, hrm, mres]
  by_cases z : lf = 0
  · rw [if_pos z, if_pos (by rw [z]; rfl), c_got RC' X c16 lim hA rfl]
    refine ⟨sI h (34 + 12 * c) 16 (ov (fun i => e 3 (16 * c + i)) (fun i => e 4 (16 * c + i)) (fun i => hI m 251 (16 * c + i)) A 0 (e 2 c)), sI m 226 77 rd, s, ⟨⟨⟨RC_x RC' rfl (setgot h _), DZ_x D (setgot h _)⟩, RM1, IV_up I (by omega) hb, C, ?_⟩, Bd_2 rfl, rfl, fun _ => rfl, fun q hq => x_ne (by omega)⟩, Or.inr ⟨rfl, rfl, ?_⟩⟩
    · refine exgot h m s (b + 1) _ _ ?_ lim
      exact EX_fr X (FrC_rfl h) (Fr_rfl m) (fun _ => rfl) (by omega) lim
    · rw [x_eq, x_eq]
      have := (re 0).1
      rw [(re 0).2, z, BB_0, show (0 : Int32) &&& 0 = 0 from rfl, or_0] at this
      exact this
  · have nz : ¬ nI lf = 0 := fun g => z ((q_eq (by omega) (show 0 < 2 ^ 31 by omega)).mp g)
    rw [if_neg z, if_neg nz, lk_R34_6 L c16, y_gs, if_pos (lk_S38 L c16), sh4, c_find RC' (IV_Bz I) (IV_Rg I) c16 l512, y_bds, r_wayOf RM1 (IV_Bz I) (IV_Rg I) c16 l512, y_bds]
    cases ew : sWay s c (A / 4) with
    | none =>
      rw [show Option.map (lo c) none = none from rfl, oI_n, if_neg (show ¬ 0 ≤ nN from by decide), if_neg (fun g => g rfl)]
      have vs : vS s (A / 4) c ≤ 1 := by unfold vS; rw [if_pos c16, ew]; exact Nat.zero_le _
      have R1 : Rel h (sI m 226 77 rd) s e b := ⟨⟨RC', D⟩, RM1, I, C, ⟨fun d hd => EXc_of (X.1 d hd) hd (fun o k ho => rfl) (fun k => Or.inl (x_ne (by omega))) (fun o ho => x_ne (by omega)) (fun o k ho _ => x_ne (by omega)) (fun k _ j _ => x_ne (by omega)) (Nat.le_refl _) lim, EXg_of X.2 (fun o k ho => rfl) (fun o k ho => x_ne (by omega))⟩⟩
      obtain ⟨h', m', e1, e2, R', B', M', T'⟩ := miss_both (kd := 0) R1 hc l512 (by omega) vs hb
      have e1' : f_X3_miss h (34 + 12 * c) (nI (A / 4)) (0 : Int32) = some h' := e1
      have e2' : f_X11_miss (sI m 226 77 rd) 226 (nI c) (nI (A / 4)) (1 : Int32) = some m' := e2
      rw [e1', y_bds, e2', y_bds]
      exact ⟨h', m', _, ⟨R', B', M', fun _ => sMiss_N (by omega), fun q hq => by rw [T' q hq, x_ne (by omega)]⟩, Or.inl ⟨rfl, rfl⟩⟩
    | some k =>
      obtain ⟨k1, k2, k3, k4⟩ := (sWay_iff (IV_Bz I) I.2.1.1 c16).mp ew
      have lok : lo c k = k % 32 := by unfold lo; omega
      have l32 : lo c k < 32 := by omega
      have kk : 32 * c + lo c k = k := by omega
      rw [show Option.map (lo c) (some k) = some (lo c k) from rfl, oI_s, oI_s, if_pos (Int32.not_lt.mp (lt0 (show lo c k < 2 ^ 31 by omega))), if_pos (show ¬ nI k = (-1 : Int32) from q_nN_ne (show k < 2 ^ 31 by omega))]
      obtain ⟨h1, e1, r1, f1⟩ := c_use RC' c16 l32
      obtain ⟨m1, e2, r2, f2⟩ := r_use RM1 k1
      rw [kk] at r1
      have L1 := RC_L r1
      have LM2 := rm_L r2
      have wof : f_X10_wordOf h1 (nI (lo c k)) (nI (4 * A)) = some (nI (4 * lo c k + A % 4)) := by
        unfold f_X10_wordOf
        rw [show ((2 : Int32) &&& 31) = nI 2 from by decide, q_shr (by omega) (by omega), show (3 : Int32) = nI (2 ^ 2 - 1) from rfl, q_and (by omega) (by omega), show (4 : Int32) = nI 4 from rfl, q_mul, q_add]
        congr 2; omega
      rw [e1, y_bds, y_gs, if_pos (lk_S34 L1 c16), lk_R34_6 L1 c16, y_gs, if_pos (lk_S38 L1 c16), wof, y_bds, lk_R38_3 L1 c16, y_gs, if_pos (lk_S42 L1 c16), lk_N42 L1 c16, y_gb, if_pos (q_ib (by omega) (by omega)), y_lt, q_cl (by omega)]
      have word : hI h1 (42 + 12 * c) (4 * lo c k + A % 4) = w4 (Wda s 0 (A / 4)) (A % 4) := by
        have := (r1.2.2.2.1 c (lo c k) c16 l32).2.2.2 (A % 4) (by omega)
        rw [this, kk]
        have d5 := I.2.2.2.2.2.2.2.1.2.2.2.2.1 k k1 k3
        have : Wda (sUse s k) 4 k = Wda s 4 k := rfl
        rw [this, d5, k4]
      have flat : hI m1 241 A = w4 (Wda s 0 (A / 4)) (A % 4) := by
        have := r2.2.2.1 0 (A / 4) (A % 4) (by omega) l512 (by omega)
        rw [show 4 * (A / 4) + A % 4 = A by omega] at this
        exact this
      have m1rd : hI m1 226 77 = rd := by
        rw [f2.2 226 77 rfl (by omega) (by omega), x_eq]
      have Xu : EX h1 m1 (sUse s k) e (b + 1) := by
        have X0 : EX h (sI m 226 77 rd) s e b := ⟨fun d hd => EXc_of (X.1 d hd) hd (fun o k ho => rfl) (fun k => Or.inl (x_ne (by omega))) (fun o ho => x_ne (by omega)) (fun o k ho _ => x_ne (by omega)) (fun k _ j _ => x_ne (by omega)) (Nat.le_refl _) lim, EXg_of X.2 (fun o k ho => rfl) (fun o k ho => x_ne (by omega))⟩
        exact EX_fr X0 (FrC_K f1) f2 (fun _ => sUse_N (by omega)) (by omega) lim
      have lim1 : N (sUse s k) 0 1 ≤ 16 := by rw [sUse_N (by omega)]; exact lim
      have sdE : ∀ i, hI m1 251 (16 * c + i) = hI m 251 (16 * c + i) := by
        intro i; rw [f2.2 251 _ rfl (by omega) (by omega), x_ne (by omega)]
      rw [word, c_got r1 Xu c16 lim1 hA rfl, e2, y_bds, y_gs, if_pos (lm_S226 LM2), lm_R23 LM2, y_gs, if_pos (lm_S241 LM2), lm_N241 LM2, y_gb, if_pos (q_ib (by omega) (by omega)), r_maskOf m1 lf16, y_bds, y_lt, q_cl (by omega), flat, m1rd]
      refine ⟨sI h1 (34 + 12 * c) 16 (ov (fun i => e 3 (16 * c + i)) (fun i => e 4 (16 * c + i)) (fun i => hI m1 251 (16 * c + i)) A (w4 (Wda s 0 (A / 4)) (A % 4)) (e 2 c)), sI m1 226 77 (rd ||| (w4 (Wda s 0 (A / 4)) (A % 4) &&& BB lf)), sUse s k, ⟨⟨⟨RC_x r1 rfl (setgot h1 _), DZ_x ?_ (setgot h1 _)⟩, RM_o r2 _ rfl, IV_use I k1 hb, CN_of C (sUse_N (by omega)) (sUse_N (by omega)) (fun _ => sUse_N (by omega)), exgot h1 m1 _ _ _ _ Xu lim1⟩, Bd_tr (Bd_C (FrC_K f1)) (Bd_2 rfl), f2.1, fun _ => sUse_N (by omega), fun q hq => by rw [x_ne (by omega), TF_Fr f2 q hq, x_ne (by omega)]⟩, Or.inr ⟨rfl, rfl, ?_⟩⟩
      · exact DZ_D D (FrD_K f1).2 (fun _ => sUse_N (by omega)) (fun _ => sUse_N (by omega)) (fun _ => sUse_N (by omega))
      · rw [x_eq, x_eq]
        have := (re (w4 (Wda s 0 (A / 4)) (A % 4))).1
        rw [(re 0).2] at this
        rw [this]
        simp only [sdE]
