/-! Combinators of the functions, switches, typed calls. -/
/-- results as the machine gives them -/
def rI (q : Int32 × AH) : Rs := (.inl (some (.int q.1)), q.2)
def rJ (q : Int64 × AH) : Rs := (.inl (some (.long q.1)), q.2)
def rR (X : Cx) (q : Nat × AH) : Rs := (.inl (some (rf X q.1)), q.2)
def rV (q : AH) : Rs := (.inl none, q)
section SW
variable {l : Launch} {X : Cx} {k : Mt} {pc : Nat} {L : List (Nat × Value)} {st : List Value} {h : AH} {r : Rs}
theorem g_lcmp {x y : Int64} (hd : decode k.2.1 pc = .ok (.lcmp, 1)) (kk : Go l X k (pc + 1) L (.int (lg_cmp x y) :: st) h r) : Go l X k pc L (.long y :: .long x :: st) h r := Go.of (fun _ _ _ _ _ _ _ _ _ _ _ _ _ _ _ _ F _ _ _ w => W.lcmp F.1 F.2.1 hd w) kk
theorem g_tsw {dflt lo hi : Int} {offs : Array Int} {len : Nat} {x : Int32} (v : Int32) {off : Int} {tgt : Nat} (hd : decode k.2.1 pc = .ok (.tableswitch dflt lo hi offs, len)) (hv : x = v) (h1 : ¬ v.toInt < lo) (h2 : ¬ hi < v.toInt) (ho : offs[(v.toInt - lo).toNat]? = some off) (ht : (pc : Int) + off = (tgt : Int)) (kk : Go l X k tgt L st h r) : Go l X k pc L (.int x :: st) h r := by
  subst hv
  exact Go.of (fun _ _ _ _ _ _ _ _ _ _ _ _ _ _ _ _ F _ _ _ w => lv_tableIn F.1 F.2.1 hd h1 h2 ho ht w) kk
theorem g_tswD {dflt lo hi : Int} {offs : Array Int} {len : Nat} {x : Int32} (vs : List Int32) {tgt : Nat} (hd : decode k.2.1 pc = .ok (.tableswitch dflt lo hi offs, len)) (hv : ∀ v ∈ vs, ¬ x = v) (hsz : (hi - lo + 1).toNat ≤ offs.size) (hall : ∀ j, j < offs.size → offs[j]? = some dflt ∨ Int32.ofInt (lo + j) ∈ vs) (ht : (pc : Int) + dflt = (tgt : Int)) (kk : Go l X k tgt L st h r) : Go l X k pc L (.int x :: st) h r := by
  by_cases h1 : x.toInt < lo
  · exact Go.of (fun _ _ _ _ _ _ _ _ _ _ _ _ _ _ _ _ F _ _ _ w => lv_tableOut F.1 F.2.1 hd (Or.inl h1) ht w) kk
  · by_cases h2 : hi < x.toInt
    · exact Go.of (fun _ _ _ _ _ _ _ _ _ _ _ _ _ _ _ _ F _ _ _ w => lv_tableOut F.1 F.2.1 hd (Or.inr h2) ht w) kk
    · have hj : (x.toInt - lo).toNat < offs.size := by omega
      rcases hall _ hj with q | q
      · exact Go.of (fun _ _ _ _ _ _ _ _ _ _ _ _ _ _ _ _ F _ _ _ w => lv_tableIn F.1 F.2.1 hd h1 h2 q ht w) kk
      · refine absurd ?_ (hv _ q)
        have e : lo + ((x.toInt - lo).toNat : Int) = x.toInt := by omega
        rw [e, Int32.ofInt_toInt]
theorem g_lsw {dflt : Int} {ps : Array (Int × Int)} {len : Nat} {x : Int32} (v : Int32) {off : Int} {tgt : Nat} (hd : decode k.2.1 pc = .ok (.lookupswitch dflt ps, len)) (hp : (ps.toList.zip (ps.toList.drop 1)).all (fun (a, next) => a.1 < next.1) = true) (hv : x = v) (ho : Op.lookupswitch.offset ps.toList dflt v.toInt = off) (ht : (pc : Int) + off = (tgt : Int)) (kk : Go l X k tgt L st h r) : Go l X k pc L (.int x :: st) h r := by
  subst hv
  exact Go.of (fun _ _ _ _ _ _ _ _ _ _ _ _ _ _ _ _ F _ _ _ w => lv_lookup F.1 F.2.1 hd hp ho ht w) kk
theorem lsw_D {x : Int32} {d : Int} : ∀ (ps : List (Int × Int)) (vs : List Int32), vs.map (fun v => v.toInt) = ps.map (fun q => q.1) → (∀ v ∈ vs, ¬ x = v) → Op.lookupswitch.offset ps d x.toInt = d
  | [], _, _, _ => rfl
  | (a, o) :: r, [], e, _ => by simp at e
  | (a, o) :: r, v :: vs, e, hv => by
    simp only [List.map_cons, List.cons.injEq] at e
    rw [lv_osw (hv v List.mem_cons_self) e.1]
    exact lsw_D r vs e.2 (fun w hw => hv w (List.mem_cons_of_mem _ hw))
theorem g_lswD {dflt : Int} {ps : Array (Int × Int)} {len : Nat} {x : Int32} (vs : List Int32) {tgt : Nat} (hd : decode k.2.1 pc = .ok (.lookupswitch dflt ps, len)) (hp : (ps.toList.zip (ps.toList.drop 1)).all (fun (a, next) => a.1 < next.1) = true) (hk : vs.map (fun v => v.toInt) = ps.toList.map (fun q => q.1)) (hv : ∀ v ∈ vs, ¬ x = v) (ht : (pc : Int) + dflt = (tgt : Int)) (kk : Go l X k tgt L st h r) : Go l X k pc L (.int x :: st) h r :=
  Go.of (fun _ _ _ _ _ _ _ _ _ _ _ _ _ _ _ _ F _ _ _ w => lv_lookup F.1 F.2.1 hd hp (lsw_D _ vs hk hv) ht w) kk
theorem nil_ne {x : Int32} : ∀ v ∈ ([] : List Int32), ¬ x = v := fun _ h => nomatch h
theorem cons_ne {x w : Int32} {vs : List Int32} (h : ¬ x = w) (t : ∀ v ∈ vs, ¬ x = v) : ∀ v ∈ w :: vs, ¬ x = v := fun v hv => (List.mem_cons.mp hv).elim (fun e => by rw [e]; exact h) (t v)
-- typed calls; stk is the whole stack
theorem g_cVI {k2 : Mt} {idx n ci o : Nat} {av stk : List Value} {q : Int32 × AH} (hstk : stk = av.reverse ++ rf X o :: st) (hd : decode k.2.1 pc = .ok (.invokevirtual idx, 3)) (ck : CK k2 n) (hm : Cond.methodLink k.1.cls idx k2.1 ∈ gw) (hin : Cond.instanceMethod k2.1 ∈ gw) (hse : Cond.selects k2.1.cls k2.1 k2.1 ∈ gw)
    (hci : (vwCl[ci]?).map (fun q => q.1) = some k2.1.cls) (h20 : ci < 20) (hs : hS h o = ci + 1) (hfr : k2.2.2.2.2.1 + 1 ≤ k.2.2.2.2.1) (hlo : 8 + (k2.2.2.1 + 11) + k2.2.2.2.2.2 ≤ k.2.2.2.2.2) (hn : av.length = n) (hst : (st.map fun v => v.category).sum ≤ 8)
    (ct : Ct l X k2 (rf X o :: av) h (rI q)) (kk : Go l X k (pc + 3) L (.int q.1 :: st) q.2 r) : Go l X k pc L stk h r := by
  subst hstk
  exact g_callV hd ck hm hin hse hci h20 hs hfr hlo hn hst ct kk
theorem g_cVJ {k2 : Mt} {idx n ci o : Nat} {av stk : List Value} {q : Int64 × AH} (hstk : stk = av.reverse ++ rf X o :: st) (hd : decode k.2.1 pc = .ok (.invokevirtual idx, 3)) (ck : CK k2 n) (hm : Cond.methodLink k.1.cls idx k2.1 ∈ gw) (hin : Cond.instanceMethod k2.1 ∈ gw) (hse : Cond.selects k2.1.cls k2.1 k2.1 ∈ gw)
    (hci : (vwCl[ci]?).map (fun q => q.1) = some k2.1.cls) (h20 : ci < 20) (hs : hS h o = ci + 1) (hfr : k2.2.2.2.2.1 + 1 ≤ k.2.2.2.2.1) (hlo : 8 + (k2.2.2.1 + 11) + k2.2.2.2.2.2 ≤ k.2.2.2.2.2) (hn : av.length = n) (hst : (st.map fun v => v.category).sum ≤ 8)
    (ct : Ct l X k2 (rf X o :: av) h (rJ q)) (kk : Go l X k (pc + 3) L (.long q.1 :: st) q.2 r) : Go l X k pc L stk h r := by
  subst hstk
  exact g_callV hd ck hm hin hse hci h20 hs hfr hlo hn hst ct kk
theorem g_cVV {k2 : Mt} {idx n ci o : Nat} {av stk : List Value} {q : AH} (hstk : stk = av.reverse ++ rf X o :: st) (hd : decode k.2.1 pc = .ok (.invokevirtual idx, 3)) (ck : CK k2 n) (hm : Cond.methodLink k.1.cls idx k2.1 ∈ gw) (hin : Cond.instanceMethod k2.1 ∈ gw) (hse : Cond.selects k2.1.cls k2.1 k2.1 ∈ gw)
    (hci : (vwCl[ci]?).map (fun q => q.1) = some k2.1.cls) (h20 : ci < 20) (hs : hS h o = ci + 1) (hfr : k2.2.2.2.2.1 + 1 ≤ k.2.2.2.2.1) (hlo : 8 + (k2.2.2.1 + 11) + k2.2.2.2.2.2 ≤ k.2.2.2.2.2) (hn : av.length = n) (hst : (st.map fun v => v.category).sum ≤ 8)
    (ct : Ct l X k2 (rf X o :: av) h (rV q)) (kk : Go l X k (pc + 3) L st q r) : Go l X k pc L stk h r := by
  subst hstk
  exact g_callV hd ck hm hin hse hci h20 hs hfr hlo hn hst ct kk
theorem g_cSI {k2 : Mt} {idx n : Nat} {av stk : List Value} {q : Int32 × AH} (hstk : stk = av.reverse ++ st) (hd : decode k.2.1 pc = .ok (.invokestatic idx, 3)) (ck : CK k2 n) (hm : Cond.methodLink k.1.cls idx k2.1 ∈ gw) (hsta : Cond.static k2.1 ∈ gw)
    (hfr : k2.2.2.2.2.1 + 1 ≤ k.2.2.2.2.1) (hlo : 8 + (k2.2.2.1 + 11) + k2.2.2.2.2.2 ≤ k.2.2.2.2.2) (hn : av.length = n) (hst : (st.map fun v => v.category).sum ≤ 8)
    (ct : Ct l X k2 av h (rI q)) (kk : Go l X k (pc + 3) L (.int q.1 :: st) q.2 r) : Go l X k pc L stk h r := by
  subst hstk
  exact g_callS hd ck hm hsta hfr hlo hn hst ct kk
theorem g_cSJ {k2 : Mt} {idx n : Nat} {av stk : List Value} {q : Int64 × AH} (hstk : stk = av.reverse ++ st) (hd : decode k.2.1 pc = .ok (.invokestatic idx, 3)) (ck : CK k2 n) (hm : Cond.methodLink k.1.cls idx k2.1 ∈ gw) (hsta : Cond.static k2.1 ∈ gw)
    (hfr : k2.2.2.2.2.1 + 1 ≤ k.2.2.2.2.1) (hlo : 8 + (k2.2.2.1 + 11) + k2.2.2.2.2.2 ≤ k.2.2.2.2.2) (hn : av.length = n) (hst : (st.map fun v => v.category).sum ≤ 8)
    (ct : Ct l X k2 av h (rJ q)) (kk : Go l X k (pc + 3) L (.long q.1 :: st) q.2 r) : Go l X k pc L stk h r := by
  subst hstk
  exact g_callS hd ck hm hsta hfr hlo hn hst ct kk
theorem g_cSR {k2 : Mt} {idx n : Nat} {av stk : List Value} {q : Nat × AH} (hstk : stk = av.reverse ++ st) (hd : decode k.2.1 pc = .ok (.invokestatic idx, 3)) (ck : CK k2 n) (hm : Cond.methodLink k.1.cls idx k2.1 ∈ gw) (hsta : Cond.static k2.1 ∈ gw)
    (hfr : k2.2.2.2.2.1 + 1 ≤ k.2.2.2.2.1) (hlo : 8 + (k2.2.2.1 + 11) + k2.2.2.2.2.2 ≤ k.2.2.2.2.2) (hn : av.length = n) (hst : (st.map fun v => v.category).sum ≤ 8)
    (ct : Ct l X k2 av h (rR X q)) (kk : Go l X k (pc + 3) L (rf X q.1 :: st) q.2 r) : Go l X k pc L stk h r := by
  subst hstk
  exact g_callS hd ck hm hsta hfr hlo hn hst ct kk
theorem g_cSV {k2 : Mt} {idx n : Nat} {av stk : List Value} {q : AH} (hstk : stk = av.reverse ++ st) (hd : decode k.2.1 pc = .ok (.invokestatic idx, 3)) (ck : CK k2 n) (hm : Cond.methodLink k.1.cls idx k2.1 ∈ gw) (hsta : Cond.static k2.1 ∈ gw)
    (hfr : k2.2.2.2.2.1 + 1 ≤ k.2.2.2.2.1) (hlo : 8 + (k2.2.2.1 + 11) + k2.2.2.2.2.2 ≤ k.2.2.2.2.2) (hn : av.length = n) (hst : (st.map fun v => v.category).sum ≤ 8)
    (ct : Ct l X k2 av h (rV q)) (kk : Go l X k (pc + 3) L st q r) : Go l X k pc L stk h r := by
  subst hstk
  exact g_callS hd ck hm hsta hfr hlo hn hst ct kk
theorem g_cIV {k2 : Mt} {idx n o : Nat} {av stk : List Value} {q : AH} (hstk : stk = av.reverse ++ rf X o :: st) (hd : decode k.2.1 pc = .ok (.invokespecial idx, 3)) (ck : CK k2 n) (hnm : k2.1.name = "<init>") (hret : k2.2.2.2.1 = none) (hm : Cond.methodLink k.1.cls idx k2.1 ∈ gw) (hin : Cond.instanceMethod k2.1 ∈ gw)
    (s9 : Nat) (hs : hS h o = s9) (hs0 : s9 ≠ 0) (hfr : k2.2.2.2.2.1 + 1 ≤ k.2.2.2.2.1) (hlo : 8 + (k2.2.2.1 + 11) + k2.2.2.2.2.2 ≤ k.2.2.2.2.2) (hn : av.length = n) (hst : (st.map fun v => v.category).sum ≤ 8)
    (ct : Ct l X k2 (rf X o :: av) h (rV q)) (kk : Go l X k (pc + 3) L st q r) : Go l X k pc L stk h r := by
  subst hstk
  exact g_callI hd ck hnm hret hm hin s9 hs hs0 hfr hlo hn hst ct kk
end SW
