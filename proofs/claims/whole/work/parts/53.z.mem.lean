/-! Rows for fields, arrays and new cells. -/
theorem ib_in {i : Int32} {n : Nat} (h : ib i n = true) : vp_in i n := by unfold vp_in; exact of_decide_eq_true h
def gw_of {ws : List Cond} (ps : List Nat) (hp : ws = ps.filterMap (fun i => lw_tbl[i]?)) (h : ws.all goodWord = true) : ∀ w ∈ ws, w ∈ gw := by
  intro w hw
  have h1 := List.all_eq_true.mp h w hw
  rw [hp] at hw
  obtain ⟨i, -, hi⟩ := List.mem_filterMap.mp hw
  exact mem_gw i hi h1
/-- a class of vwCl: its fields' words, types and names -/
def CL (ci : Nat) (C : String) (T : u_T) (N : Nat) (ty : Nat → FieldType) : Prop := vwCl[ci]? = some (C, T, N) ∧ ci < 20 ∧ (∀ w ∈ u_ws C T N, w ∈ gw) ∧ (∀ k, k < N → parseFieldDescriptor (T k).2.2.1 = some (ty k)) ∧ (∀ a, a < N → ∀ b, b < N → a ≠ b → (T a).2.1 ≠ (T b).2.1) ∧ (fk ci).length = N
/-- a field by an entry of a class's pool: field f of class ci, of kind t and type tf -/
def FL (own : String) (idx ci f t : Nat) (tf : FieldType) (fin : Bool) : Prop := ∃ (C : String) (T : u_T) (N : Nat) (ty : Nat → FieldType), CL ci C T N ty ∧ f < N ∧ (fk ci)[f]? = some t ∧ Cond.fieldLink own idx (T f).1 (T f).2.1 (T f).2.2.1 ∈ gw ∧ (T f).2.2.2 = fin ∧ ty f = tf ∧ (T f).1 = C
theorem hI_sI_eq {h : AH} {o k : Nat} {v : Int32} : hI (sI h o k v) o k = v := by rw [hI_sI, if_pos ⟨rfl, rfl⟩]
theorem hL_sL_eq {h : AH} {o k : Nat} {v : Int64} : hL (sL h o k v) o k = v := by rw [hL_sL, if_pos ⟨rfl, rfl⟩]
theorem hR_sR_eq {h : AH} {o k : Nat} {v : Nat} : hR (sR h o k v) o k = v := by rw [hR_sR, if_pos ⟨rfl, rfl⟩]
theorem hI_sI_ne {h : AH} {o k a j : Nat} {v : Int32} (hj : j ≠ k) : hI (sI h o k v) a j = hI h a j := by rw [hI_sI, if_neg (fun q => hj q.2)]
theorem hL_sL_ne {h : AH} {o k a j : Nat} {v : Int64} (hj : j ≠ k) : hL (sL h o k v) a j = hL h a j := by rw [hL_sL, if_neg (fun q => hj q.2)]
theorem hR_sR_ne {h : AH} {o k a j : Nat} {v : Nat} (hj : j ≠ k) : hR (sR h o k v) a j = hR h a j := by rw [hR_sR, if_neg (fun q => hj q.2)]
section MEM
variable {l : Launch} {X : Cx} {k : Mt} {pc : Nat} {L : List (Nat × Value)} {st : List Value} {h : AH} {r : Rs}
theorem g_get {idx ci f t o : Nat} {tf : FieldType} {fin : Bool} (hF : FL k.1.cls idx ci f t tf fin) (hd : decode k.2.1 pc = .ok (.getfield idx, 3)) (hs : hS h o = ci + 1) (kk : Go l X k (pc + 3) L (fv X h o f t :: st) h r) : Go l X k pc L (rf X o :: st) h r := Go.of (fun p e R s m args below meth c H locs cells slots ls Q g F hS' hR hl w => by
  obtain ⟨C, T, N, ty, ⟨hc, h20, hin, hty, hnm, hlen⟩, hk, hft, hlk, -⟩ := hF
  obtain ⟨hx, hb, hml, hr, hlo, hts, hown, hnam, hfr, hlc, hK, hSx, hB⟩ := F
  rw [hR.rfe hs (by omega)]
  have hP := hR.at hs (by omega)
  rw [cellE_obj hs h20] at hP
  exact va_get hx hb hts hin hown hK hP 0 rfl hc f hk (hts _ hlk) (fun _ hx => hx) (flds_at hft) hd w) kk
theorem g_getI {idx ci f o : Nat} {tf : FieldType} {fin : Bool} (hF : FL k.1.cls idx ci f 0 tf fin) (hd : decode k.2.1 pc = .ok (.getfield idx, 3)) (hs : hS h o = ci + 1) (kk : Go l X k (pc + 3) L (.int (hI h o f) :: st) h r) : Go l X k pc L (rf X o :: st) h r := g_get hF hd hs kk
theorem g_getL {idx ci f o : Nat} {tf : FieldType} {fin : Bool} (hF : FL k.1.cls idx ci f 1 tf fin) (hd : decode k.2.1 pc = .ok (.getfield idx, 3)) (hs : hS h o = ci + 1) (kk : Go l X k (pc + 3) L (.long (hL h o f) :: st) h r) : Go l X k pc L (rf X o :: st) h r := g_get hF hd hs kk
theorem g_getR {idx ci f o : Nat} {tf : FieldType} {fin : Bool} (hF : FL k.1.cls idx ci f 2 tf fin) (hd : decode k.2.1 pc = .ok (.getfield idx, 3)) (hs : hS h o = ci + 1) (kk : Go l X k (pc + 3) L (rf X (hR h o f) :: st) h r) : Go l X k pc L (rf X o :: st) h r := g_get hF hd hs kk
theorem g_put {idx ci f t o : Nat} {tf : FieldType} {fin : Bool} {v : Value} {h' : AH} (hF : FL k.1.cls idx ci f t tf fin) (hini : fin = true → k.1.name = "<init>") (hcl : fin = true → ∀ C T N, vwCl[ci]? = some (C, T, N) → C = k.1.cls) (hd : decode k.2.1 pc = .ok (.putfield idx, 3)) (hs : hS h o = ci + 1) (hn : narrow tf v = v) (hfit : fits tf v = true)
    (hs' : ∀ a, hS h' a = hS h a) (hz : hZ h' = hZ h) (hvv : hV h' = hV h) (he : ∀ a, a ≠ o → cellE X h' a = cellE X h a) (hv : fv X h' o f t = v) (hoth : ∀ j u, j ≠ f → fv X h' o j u = fv X h o j u)
    (kk : Go l X k (pc + 3) L st h' r) : Go l X k pc L (v :: rf X o :: st) h r := ⟨by rw [← hz, ← hvv]; exact kk.1, fun g p e R s m args below meth c F H locs cells slots ls hSS hR hc9 hs9 hl => by
  obtain ⟨C, T, N, ty, ⟨hc, h20, hin, hty, hnm, hlen⟩, hk, hft, hlk, hfin, htf, hC⟩ := hF
  obtain ⟨hx, hb, hml, hr, hlo, hts, hown, hnam, hfr, hlc, hK, hSx, hB⟩ := id F
  rw [hR.rfe hs (by omega)]
  have hP := hR.at hs (by omega)
  rw [cellE_obj hs h20] at hP
  have hap := va_apart (own := k.1.cls) hts hin ty hty hnm hK hc
  obtain ⟨r9, h1, cell, q1, q2, q3, q4⟩ := hP 0 _ rfl
  have hr9 : r9 = (C, T, N) := Option.some.inj (h1.symm.trans hc)
  subst hr9
  obtain ⟨hSl, hfc, kC, hkC, hkind⟩ := hK.1 ci _ hc
  obtain ⟨cf, kf, fi, fd, hi, hsl⟩ := hSl f hk
  have hlay := hts _ (hin _ (u_in_lay hk))
  unfold u_lay at hlay
  have hst := (u_facts hfc hkC (u_lays hts hin hk) hi).1
  have hdesc : parseFieldDescriptor (T f).2.2.1 = some tf := by rw [← htf]; exact hty f hk
  have hlf : f < (flds X h o ci).length := by unfold flds; rw [List.length_mapIdx, hlen]; exact hk
  have fin2 : ∀ H' : Heap, H'[xB X + (o - 1)]? = some (cell.setSlot fd.slot v) → H'.size = H.size → (∀ q, q ≠ xB X + (o - 1) → H'[q]? = H[q]?) → W p l e R s m args below meth c H' (locs ++ [⟨xB X + (o - 1), fd.slot⟩]) cells slots (En X r g below args s R) (F0 m (pc + 3) ls st) := by
    intro H' e1 e2 e3
    refine kk.2 g p e R s m args below meth c F H' _ cells slots ls (hSS.put e2 e3 (Nat.le_add_right _ _)) (hR.put (by rw [hs]; omega) e2 e3 hs' hz he ?_) (by rw [hz]; exact hc9) (by rw [hvv]; exact hs9) hl
    rw [cellE_obj (by rw [hs']; exact hs) h20, flds_set hft hv hoth]
    rw [hsl] at e1
    exact ⟨_, hc, t_OB.to (V := updV (vp_V (flds X h o ci)) f v) ⟨_, e1, q2, q3, t_set q4 hap hk v⟩ (fun j _ => vp_updV_set hlf v j)⟩
  cases fin with
  | false =>
    rw [if_neg (by rw [hfin]; decide)] at hlay
    have h6 := u_store hfc hkC hkind hlay hi hdesc hn hfit
    exact W.putK hx hb (f := fd) ⟨hown, hts _ hlk, ⟨_, _, _, hi⟩, hst⟩ (by rw [q2]; exact h6) q1 q3 (by rw [hsl]; exact k2_hasslot (q4 f hk)) rfl rfl hd fin2
  | true =>
    rw [if_pos hfin] at hlay
    have hcf : m.cls = cf := by
      obtain ⟨_, _, c', _, _, _, -, -, hf', -, -, -, hown2, -⟩ := Cond.laysFinal_spec hlay
      have e1 : c' = cf := by have := hi.symm.trans hf'; simp at this; exact this.1.symm
      rw [hC, hcl rfl C T N hc] at hown2
      rw [← e1]; exact Option.some.inj (hown.symm.trans hown2)
    have h6 := u_fits hfc hkC hkind (Or.inr hlay) hi hdesc hn hfit
    exact W.putFinK hx hb hown (hts _ hlk) hi hst hcf (by rw [hnam]; exact hini rfl) (by rw [q2]; exact h6) q1 q3 (by rw [hsl]; exact k2_hasslot (q4 f hk)) rfl rfl hd fin2⟩
theorem cellE_sI {h : AH} {o f : Nat} {v : Int32} (a : Nat) (ha : a ≠ o) : cellE X (sI h o f v) a = cellE X h a := by
  have e : ∀ b, hI (sI h o f v) a b = hI h a b := fun b => by rw [hI_sI, if_neg (fun q => ha q.1)]
  have e2 : hI (sI h o f v) a = hI h a := funext e
  unfold cellE flds rowE fv
  rw [e2]
  rfl
theorem cellE_sL {h : AH} {o f : Nat} {v : Int64} (a : Nat) (ha : a ≠ o) : cellE X (sL h o f v) a = cellE X h a := by
  have e2 : hL (sL h o f v) a = hL h a := funext fun b => by rw [hL_sL, if_neg (fun q => ha q.1)]
  unfold cellE flds rowE fv
  rw [e2]
  rfl
theorem cellE_sR {h : AH} {o f : Nat} {v : Nat} (a : Nat) (ha : a ≠ o) : cellE X (sR h o f v) a = cellE X h a := by
  have e2 : hR (sR h o f v) a = hR h a := funext fun b => by rw [hR_sR, if_neg (fun q => ha q.1)]
  unfold cellE flds rowE fv
  rw [e2]
  rfl
theorem g_putI {idx ci f o : Nat} {x : Int32} {h' : AH} (hF : FL k.1.cls idx ci f 0 .int false) (hd : decode k.2.1 pc = .ok (.putfield idx, 3)) (hs : hS h o = ci + 1) (e : h' = sI h o f x) (kk : Go l X k (pc + 3) L st h' r) : Go l X k pc L (.int x :: rf X o :: st) h r := by
  subst e
  exact g_put (h' := (sI h o f x)) hF (fun q => by cases q) (fun q => by cases q) hd hs rfl rfl (fun _ => rfl) rfl rfl (fun a ha => cellE_sI a ha) (by unfold fv; rw [hI_sI_eq]; rfl) (fun j u hj => by unfold fv; rw [hI_sI_ne hj]; rfl) kk
theorem g_putZ {idx ci f o : Nat} {x : Int32} {h' : AH} (hF : FL k.1.cls idx ci f 0 .boolean false) (hd : decode k.2.1 pc = .ok (.putfield idx, 3)) (hs : hS h o = ci + 1) (hx : (x == 0 || x == 1) = true) (e : h' = sI h o f x) (kk : Go l X k (pc + 3) L st h' r) : Go l X k pc L (.int x :: rf X o :: st) h r := by
  subst e
  have hx' : narrow .boolean (.int x) = .int x := by
    rcases Bool.or_eq_true_iff.mp hx with q | q <;> (rw [beq_iff_eq.mp q]; rfl)
  exact g_put (h' := (sI h o f x)) hF (fun q => by cases q) (fun q => by cases q) hd hs hx' hx (fun _ => rfl) rfl rfl (fun a ha => cellE_sI a ha) (by unfold fv; rw [hI_sI_eq]; rfl) (fun j u hj => by unfold fv; rw [hI_sI_ne hj]; rfl) kk
theorem g_putL {idx ci f o : Nat} {x : Int64} {h' : AH} (hF : FL k.1.cls idx ci f 1 .long false) (hd : decode k.2.1 pc = .ok (.putfield idx, 3)) (hs : hS h o = ci + 1) (e : h' = sL h o f x) (kk : Go l X k (pc + 3) L st h' r) : Go l X k pc L (.long x :: rf X o :: st) h r := by
  subst e
  exact g_put (h' := (sL h o f x)) hF (fun q => by cases q) (fun q => by cases q) hd hs rfl rfl (fun _ => rfl) rfl rfl (fun a ha => cellE_sL a ha) (by unfold fv; rw [hL_sL_eq]; rfl) (fun j u hj => by unfold fv; rw [hL_sL_ne hj]; rfl) kk
theorem rf_fits (X : Cx) (o : Nat) {tf : FieldType} (ht : (∃ n, tf = .object n) ∨ ∃ t, tf = .array t) : narrow tf (rf X o) = rf X o ∧ fits tf (rf X o) = true := by
  unfold rf
  rcases ht with ⟨n, rfl⟩ | ⟨t, rfl⟩ <;> split <;> exact ⟨rfl, rfl⟩
theorem g_putR {idx ci f o x : Nat} {tf : FieldType} {h' : AH} (hF : FL k.1.cls idx ci f 2 tf false) (ht : (∃ n, tf = .object n) ∨ ∃ t, tf = .array t) (hd : decode k.2.1 pc = .ok (.putfield idx, 3)) (hs : hS h o = ci + 1) (e : h' = sR h o f x) (kk : Go l X k (pc + 3) L st h' r) : Go l X k pc L (rf X x :: rf X o :: st) h r := by
  subst e
  exact g_put (h' := (sR h o f x)) hF (fun q => by cases q) (fun q => by cases q) hd hs (rf_fits X x ht).1 (rf_fits X x ht).2 (fun _ => rfl) rfl rfl (fun a ha => cellE_sR a ha) (by unfold fv; rw [hR_sR_eq]; rfl) (fun j u hj => by unfold fv; rw [hR_sR_ne hj]; rfl) kk
/-- final fields, in a constructor of their class -/
theorem g_putRF {idx ci f o x : Nat} {tf : FieldType} {h' : AH} (hF : FL k.1.cls idx ci f 2 tf true) (hi : k.1.name = "<init>") (hC : ∀ C T N, vwCl[ci]? = some (C, T, N) → C = k.1.cls) (ht : (∃ n, tf = .object n) ∨ ∃ t, tf = .array t) (hd : decode k.2.1 pc = .ok (.putfield idx, 3)) (hs : hS h o = ci + 1) (e : h' = sR h o f x) (kk : Go l X k (pc + 3) L st h' r) : Go l X k pc L (rf X x :: rf X o :: st) h r := by
  subst e
  exact g_put (h' := (sR h o f x)) hF (fun _ => hi) (fun _ => hC) hd hs (rf_fits X x ht).1 (rf_fits X x ht).2 (fun _ => rfl) rfl rfl (fun a ha => cellE_sR a ha) (by unfold fv; rw [hR_sR_eq]; rfl) (fun j u hj => by unfold fv; rw [hR_sR_ne hj]; rfl) kk
theorem g_putIF {idx ci f o : Nat} {x : Int32} {h' : AH} (hF : FL k.1.cls idx ci f 0 .int true) (hi : k.1.name = "<init>") (hC : ∀ C T N, vwCl[ci]? = some (C, T, N) → C = k.1.cls) (hd : decode k.2.1 pc = .ok (.putfield idx, 3)) (hs : hS h o = ci + 1) (e : h' = sI h o f x) (kk : Go l X k (pc + 3) L st h' r) : Go l X k pc L (.int x :: rf X o :: st) h r := by
  subst e
  exact g_put (h' := (sI h o f x)) hF (fun _ => hi) (fun _ => hC) hd hs rfl rfl (fun _ => rfl) rfl rfl (fun a ha => cellE_sI a ha) (by unfold fv; rw [hI_sI_eq]; rfl) (fun j u hj => by unfold fv; rw [hI_sI_ne hj]; rfl) kk
-- arrays
theorem Rl.arr {g : AH} {H : Heap} (hR : Rl X h g H) {o s : Nat} (hs : hS h o = s) (hc : 20 < s) : va_P (xD X) vwCl [(xB X + (o - 1), .inl (xC X s, rowE X h o s))] H := by
  have hP := hR.at hs (by omega)
  rw [cellE_arr hs hc] at hP
  exact hP
theorem g_iald {o : Nat} {i : Int32} (hs : hS h o = 21) (hi : ib i (hN h o) = true) (hd : decode k.2.1 pc = .ok (.iaload, 1)) (kk : Go l X k (pc + 1) L (.int (hI h o i.toNatClampNeg) :: st) h r) : Go l X k pc L (.int i :: rf X o :: st) h r := Go.of (fun p e R s m args below meth c H locs cells slots ls Q g F hS' hR hl w => by
  obtain ⟨hx, hb, hml, hr, hlo, hts, hown, hnam, hfr, hlc, hK, hSx, hB⟩ := F
  rw [hR.rfe hs (by omega)]
  exact va_iald hx hb hK (hR.arr hs (by omega)) 0 0 rfl rfl (ib_in hi) hd w) kk
theorem g_lald {o : Nat} {i : Int32} (hs : hS h o = 22) (hi : ib i (hN h o) = true) (hd : decode k.2.1 pc = .ok (.laload, 1)) (kk : Go l X k (pc + 1) L (.long (hL h o i.toNatClampNeg) :: st) h r) : Go l X k pc L (.int i :: rf X o :: st) h r := Go.of (fun p e R s m args below meth c H locs cells slots ls Q g F hS' hR hl w => by
  obtain ⟨hx, hb, hml, hr, hlo, hts, hown, hnam, hfr, hlc, hK, hSx, hB⟩ := F
  rw [hR.rfe hs (by omega)]
  exact va_lald hx hb hK (hR.arr hs (by omega)) 0 1 rfl rfl (ib_in hi) hd w) kk
theorem g_cald {o : Nat} {i : Int32} (hs : hS h o = 23) (hi : ib i (hN h o) = true) (hd : decode k.2.1 pc = .ok (.caload, 1)) (kk : Go l X k (pc + 1) L (.int (hI h o i.toNatClampNeg) :: st) h r) : Go l X k pc L (.int i :: rf X o :: st) h r := Go.of (fun p e R s m args below meth c H locs cells slots ls Q g F hS' hR hl w => by
  obtain ⟨hx, hb, hml, hr, hlo, hts, hown, hnam, hfr, hlc, hK, hSx, hB⟩ := F
  rw [hR.rfe hs (by omega)]
  exact va_cald hx hb hK (hR.arr hs (by omega)) 0 2 rfl rfl (ib_in hi) hd w) kk
theorem g_zald {o : Nat} {i : Int32} (hs : hS h o = 24) (hi : ib i (hN h o) = true) (hd : decode k.2.1 pc = .ok (.baload, 1)) (kk : Go l X k (pc + 1) L (.int (hI h o i.toNatClampNeg) :: st) h r) : Go l X k pc L (.int i :: rf X o :: st) h r := Go.of (fun p e R s m args below meth c H locs cells slots ls Q g F hS' hR hl w => by
  obtain ⟨hx, hb, hml, hr, hlo, hts, hown, hnam, hfr, hlc, hK, hSx, hB⟩ := F
  rw [hR.rfe hs (by omega)]
  exact va_zald hx hb hK (hR.arr hs (by omega)) 0 3 rfl rfl (ib_in hi) hd w) kk
theorem g_alen {o s : Nat} {ty : FieldType} (t0 : Nat) (ht : (tysX X)[t0]? = some (xC X s, ty)) (hs : hS h o = s) (h20 : 20 < s) (hd : decode k.2.1 pc = .ok (.arraylength, 1)) (kk : Go l X k (pc + 1) L (.int (nI (hN h o)) :: st) h r) : Go l X k pc L (rf X o :: st) h r := Go.of (fun p e R s m args below meth c H locs cells slots ls Q g F hS' hR hl w => by
  obtain ⟨hx, hb, hml, hr, hlo, hts, hown, hnam, hfr, hlc, hK, hSx, hB⟩ := F
  rw [hR.rfe hs (by omega)]
  exact va_alen hx hb hK (hR.arr hs h20) 0 t0 rfl ht rfl hd w) kk
/-- a store into a row of ints (int, char, boolean) -/
theorem put_row {g : AH} {H H' : Heap} {o s : Nat} {j : Nat} {x : Int32} (hR : Rl X h g H) (hs : hS h o = s) (hc : 20 < s) (h22 : s ≠ 22) (h25 : s ≠ 25) (h26 : s ≠ 26) (e : H'[xB X + (o - 1)]? = some ((arrV (xC X s) (hN h o) (fun j => .int (hI h o j))).setSlot j (.int x))) (z : H'.size = H.size) (oq : ∀ q, q ≠ xB X + (o - 1) → H'[q]? = H[q]?) : Rl X (sI h o j x) g H' := by
  refine hR.put (by omega) z oq (fun _ => rfl) rfl (fun a ha => cellE_sI a ha) ?_
  rw [cellE_arr (by rw [hS_sI]; exact hs) hc]
  have e9 : rowE X (sI h o j x) o s = (hN h o, .inl (hI (sI h o j x) o)) := by
    unfold rowE
    rw [if_neg h22, if_neg h25, if_neg h26]
    rfl
  rw [e9]
  show H'[xB X + (o - 1)]? = some (vp_cell _ _)
  rw [e, vp_cell_i, arrV_store]
  congr 2
  funext q
  by_cases hq : q = j
  · subst hq; simp [updV, hI_sI]
  · simp [updV, hI_sI, hq]
theorem row_cell {s : Nat} (o : Nat) (h22 : s ≠ 22) (h25 : s ≠ 25) (h26 : s ≠ 26) : vp_cell (xC X s) (rowE X h o s) = arrV (xC X s) (hN h o) (fun j => .int (hI h o j)) := by
  unfold rowE
  rw [if_neg h22, if_neg h25, if_neg h26]
  rfl
theorem g_iast {o : Nat} {i x : Int32} {h' : AH} (hs : hS h o = 21) (hi : ib i (hN h o) = true) (hd : decode k.2.1 pc = .ok (.iastore, 1)) (e : h' = sI h o i.toNatClampNeg x) (kk : Go l X k (pc + 1) L st h' r) : Go l X k pc L (.int x :: .int i :: rf X o :: st) h r := ⟨by subst e; exact kk.1, fun g p e9 R s m args below meth c F H locs cells slots ls hSS hR hc9 hs9 hl => by
  subst e
  obtain ⟨hx, hb, hml, hr, hlo, hts, hown, hnam, hfr, hlc, hK, hSx, hB⟩ := id F
  rw [hR.rfe hs (by omega)]
  have hP := hR.arr hs (by omega) 0 _ rfl
  have hP : H[xB X + (o - 1)]? = some (vp_cell (xC X 21) (rowE X h o 21)) := hP
  rw [row_cell o (by omega) (by omega) (by omega)] at hP
  exact W.iast hx hb hP ((hK.2 0 _ rfl).1 _ _) (fun q => by cases q) (by rw [arrV_size]; exact ib_in hi) rfl rfl hd fun H1 e z oq => kk.2 g p e9 R s m args below meth c F H1 _ cells slots ls (hSS.put z oq (Nat.le_add_right _ _)) (put_row hR hs (by omega) (by omega) (by omega) (by omega) e z oq) hc9 hs9 hl⟩
theorem g_zast {o : Nat} {i x : Int32} {h' : AH} (hs : hS h o = 24) (hi : ib i (hN h o) = true) (hd : decode k.2.1 pc = .ok (.bastore, 1)) (e : h' = sI h o i.toNatClampNeg (x &&& 1)) (kk : Go l X k (pc + 1) L st h' r) : Go l X k pc L (.int x :: .int i :: rf X o :: st) h r := ⟨by subst e; exact kk.1, fun g p e9 R s m args below meth c F H locs cells slots ls hSS hR hc9 hs9 hl => by
  subst e
  obtain ⟨hx, hb, hml, hr, hlo, hts, hown, hnam, hfr, hlc, hK, hSx, hB⟩ := id F
  rw [hR.rfe hs (by omega)]
  have hP := hR.arr hs (by omega) 0 _ rfl
  have hP : H[xB X + (o - 1)]? = some (vp_cell (xC X 24) (rowE X h o 24)) := hP
  rw [row_cell o (by omega) (by omega) (by omega)] at hP
  exact W.zast hx hb hP ((hK.2 3 _ rfl).1 _ _) (fun q => by cases q) (by rw [arrV_size]; exact ib_in hi) rfl rfl hd fun H1 e z oq => kk.2 g p e9 R s m args below meth c F H1 _ cells slots ls (hSS.put z oq (Nat.le_add_right _ _)) (put_row hR hs (by omega) (by omega) (by omega) (by omega) e z oq) hc9 hs9 hl⟩
theorem g_cast {o : Nat} {i x : Int32} {h' : AH} (hs : hS h o = 23) (hi : ib i (hN h o) = true) (hd : decode k.2.1 pc = .ok (.castore, 1)) (e : h' = sI h o i.toNatClampNeg (x.toUInt32.toUInt16.toUInt32.toInt32)) (kk : Go l X k (pc + 1) L st h' r) : Go l X k pc L (.int x :: .int i :: rf X o :: st) h r := ⟨by subst e; exact kk.1, fun g p e9 R s m args below meth c F H locs cells slots ls hSS hR hc9 hs9 hl => by
  subst e
  obtain ⟨hx, hb, hml, hr, hlo, hts, hown, hnam, hfr, hlc, hK, hSx, hB⟩ := id F
  rw [hR.rfe hs (by omega)]
  have hP := hR.arr hs (by omega) 0 _ rfl
  have hP : H[xB X + (o - 1)]? = some (vp_cell (xC X 23) (rowE X h o 23)) := hP
  rw [row_cell o (by omega) (by omega) (by omega)] at hP
  exact W.cast hx hb hP ((hK.2 2 _ rfl).1 _ _) (fun q => by cases q) (by rw [arrV_size]; exact ib_in hi) rfl rfl hd fun H1 e z oq => kk.2 g p e9 R s m args below meth c F H1 _ cells slots ls (hSS.put z oq (Nat.le_add_right _ _)) (put_row hR hs (by omega) (by omega) (by omega) (by omega) e z oq) hc9 hs9 hl⟩
theorem g_last {o : Nat} {i : Int32} {x : Int64} {h' : AH} (hs : hS h o = 22) (hi : ib i (hN h o) = true) (hd : decode k.2.1 pc = .ok (.lastore, 1)) (e : h' = sL h o i.toNatClampNeg x) (kk : Go l X k (pc + 1) L st h' r) : Go l X k pc L (.long x :: .int i :: rf X o :: st) h r := ⟨by subst e; exact kk.1, fun g p e9 R s m args below meth c F H locs cells slots ls hSS hR hc9 hs9 hl => by
  subst e
  obtain ⟨hx, hb, hml, hr, hlo, hts, hown, hnam, hfr, hlc, hK, hSx, hB⟩ := id F
  rw [hR.rfe hs (by omega)]
  have hP := hR.arr hs (by omega) 0 _ rfl
  have hP : H[xB X + (o - 1)]? = some (arrV (xC X 22) (hN h o) (fun j => .long (hL h o j))) := hP
  refine W.last hx hb hP ((hK.2 1 _ rfl).1 _ _) (fun q => by cases q) (by rw [arrV_size]; exact ib_in hi) rfl rfl hd fun H1 e z oq => kk.2 g p e9 R s m args below meth c F H1 _ cells slots ls (hSS.put z oq (Nat.le_add_right _ _)) (hR.put (by omega) z oq (fun _ => rfl) rfl (fun a ha => cellE_sL a ha) ?_) hc9 hs9 hl
  rw [cellE_arr (s := 22) (show hS (sL h o i.toNatClampNeg x) o = 22 from hs) (by omega)]
  show H1[xB X + (o - 1)]? = some (arrV (xC X 22) (hN h o) (fun q => .long (hL (sL h o i.toNatClampNeg x) o q)))
  rw [e, arrV_store]
  congr 2
  funext q
  by_cases hq : q = i.toNatClampNeg
  · subst hq; simp [updV, hL_sL]
  · simp [updV, hL_sL, hq]⟩
end MEM
