/-! The context of the law, out of its start. -/
def fA (t0 t1 t2 r3 r4 : Nat) (ae : Nat → Nat) (ad : Nat → Nat × Nat) (k : Nat) : Nat := if k = 0 then t0 else if k = 1 then t1 else if k = 2 then t2 else if k = 3 then r3 else if k = 4 then r4 else if k < 1000 then ae (k - 100) else if k < 2000 then (ad (k - 1001)).1 else (ad (k - 2001)).2
section FA
variable {t0 t1 t2 r3 r4 : Nat} {ae : Nat → Nat} {ad : Nat → Nat × Nat}
theorem fA_e {j : Nat} (h : j < 61) : fA t0 t1 t2 r3 r4 ae ad (100 + j) = ae j := by
  unfold fA
  rw [if_neg (by omega), if_neg (by omega), if_neg (by omega), if_neg (by omega), if_neg (by omega), if_pos (by omega), show 100 + j - 100 = j by omega]
theorem fA_s {i : Nat} (h0 : 0 < i) (h : i ≤ 74) : fA t0 t1 t2 r3 r4 ae ad (1000 + i) = (ad (i - 1)).1 := by
  unfold fA
  rw [if_neg (by omega), if_neg (by omega), if_neg (by omega), if_neg (by omega), if_neg (by omega), if_neg (by omega), if_pos (by omega), show 1000 + i - 1001 = i - 1 by omega]
theorem fA_v {i : Nat} (h0 : 0 < i) (h : i ≤ 74) : fA t0 t1 t2 r3 r4 ae ad (2000 + i) = (ad (i - 1)).2 := by
  unfold fA
  rw [if_neg (by omega), if_neg (by omega), if_neg (by omega), if_neg (by omega), if_neg (by omega), if_neg (by omega), if_neg (by omega), show 2000 + i - 2001 = i - 1 by omega]
end FA
theorem arr_K {args : Array Value} {s : State} {ty : FieldType} (h : (Cond.arrayClass ty).before args s = true) : ∃ cA, ArrOfT s cA ty ∧ s.vm.findClass ("[" ++ ty.toString) = some cA := by
  obtain ⟨cA, kA, comp, h1, h2, h3⟩ := Cond.arrayClass_spec (args := args) (first := s) (o := none) (s := s) (idx := []) h
  exact ⟨cA, fun n z => ⟨fun k h => (by cases h), kA, h2, comp, h3⟩, h1⟩
theorem arr_O {args : Array Value} {s : State} {C : String} (h : (Cond.arrayOver (.object C)).before args s = true) : ∃ cA, ArrOfT s cA (.object C) ∧ va_RA s cA (.object C) := by
  obtain ⟨comp, cA, kA, h1, h2, h3, h4, h5⟩ := Cond.arrayOver_spec (args := args) (first := s) (o := none) (s := s) (idx := []) h
  exact ⟨cA, fun n z => ⟨fun k h => (by cases h), kA, h3, comp, h4⟩, kA, comp, h3, h4, h1, h5⟩
theorem mOps_ok : ∀ j, j < 61 → 62 ≤ mOps.getD j 0 ∧ mOps.getD j 0 ≤ 74 := by decide
theorem sLen_ok : ∀ j, j < 74 → sLen.getD j 0 < 2 ^ 31 := by decide
theorem tS_ldc : ∀ j, j < 61 → tS j = .string "CoreHouseModel" (ldcN.getD j (0, "")).1 := by
  intro j hj
  have : (List.range 61).all (fun j => decide (sTm.getD j ("", 0) = ("CoreHouseModel", (ldcN.getD j (0, "")).1))) = true := by decide +kernel
  have w := of_decide_eq_true (List.all_eq_true.mp this j (List.mem_range.mpr hj))
  unfold tS
  rw [w]
theorem sr_of {args : Array Value} {s : State} {own tx : String} {k : Nat} (h1 : (Cond.stringRef own k tx).before args s = true) (h2 : (Cond.exactly (.string own k) "java/lang/String").before args s = true) : ∃ a, vk_R own k tx a s := by
  obtain ⟨a, c, cA, kA, q1, -⟩ := Cond.exactly_spec (args := args) (first := s) (o := none) (s := s) (idx := []) (t := .string own k) (cls := "java/lang/String") h2
  exact ⟨a, vk_R.of h1 q1⟩
theorem start_X {args : Array Value} {s : State} (hts : ∀ w ∈ lw_tbl, w.before args s = true) (hg : (Cond.and given_1 narrow_1).before args s = true) : ∃ X : Cx, xB X = s.heap.size ∧ va_K (xD X) vwCl (tysX X) s ∧ Sx X s s.heap := by
  have hn := pth_use [false] (Cond.and given_1 narrow_1) narrow_1 rfl hg
  have h1 := pth_use [true, true] narrow_1 narrow_1_1 rfl hn
  have h2 := pth_use [true, false] narrow_1 narrow_1_2 rfl hn
  have h3 := pth_use [false, true] narrow_1 narrow_1_3 rfl hn
  have h4 := pth_use [false, false] narrow_1 narrow_1_4 rfl hn
  have hgw : ∀ w ∈ gw, w.before args s = true := fun w hw => hts w (List.mem_filter.mp hw).1
  obtain ⟨c0, i0, k0⟩ := u_known (C := RX1) (T := TX1) (N := 18) (n := 18) hgw CL_X1.2.2.1 (hts _ (List.mem_append_right _ (List.mem_append_left _ (List.mem_of_getElem? (l := tables_1_1) (i := 66) rfl))))
  obtain ⟨c1, i1, k1⟩ := u_known (C := RX2) (T := TX2) (N := 7) (n := 7) hgw CL_X2.2.2.1 (hts _ (List.mem_append_right _ (List.mem_append_right _ (List.mem_append_left _ (List.mem_of_getElem? (l := tables_1_2) (i := 9) rfl)))))
  obtain ⟨c2, i2, k2⟩ := u_known (C := RX3) (T := TX3) (N := 17) (n := 17) hgw CL_X3.2.2.1 (hts _ (List.mem_append_right _ (List.mem_append_left _ (List.mem_of_getElem? (l := tables_1_1) (i := 226) rfl))))
  obtain ⟨c3, i3, k3⟩ := u_known (C := RX4) (T := TX4) (N := 17) (n := 17) hgw CL_X4.2.2.1 (hts _ (List.mem_append_right _ (List.mem_append_left _ (List.mem_of_getElem? (l := tables_1_1) (i := 154) rfl))))
  obtain ⟨c4, i4, k4⟩ := u_known (C := RX6) (T := TX6) (N := 4) (n := 4) hgw CL_X6.2.2.1 (hts _ (List.mem_append_right _ (List.mem_append_left _ (List.mem_of_getElem? (l := tables_1_1) (i := 132) rfl))))
  obtain ⟨c5, i5, k5⟩ := u_known (C := RX7) (T := TX7) (N := 3) (n := 3) hgw CL_X7.2.2.1 (hts _ (List.mem_append_right _ (List.mem_append_left _ (List.mem_of_getElem? (l := tables_1_1) (i := 232) rfl))))
  obtain ⟨c6, i6, k6⟩ := u_known (C := RX8) (T := TX8) (N := 6) (n := 6) hgw CL_X8.2.2.1 (hts _ (List.mem_append_right _ (List.mem_append_left _ (List.mem_of_getElem? (l := tables_1_1) (i := 34) rfl))))
  obtain ⟨c7, i7, k7⟩ := u_known (C := RX9) (T := TX9) (N := 2) (n := 2) hgw CL_X9.2.2.1 (hts _ (List.mem_append_right _ (List.mem_append_right _ (List.mem_append_left _ (List.mem_of_getElem? (l := tables_1_2) (i := 42) rfl)))))
  obtain ⟨c8, i8, k8⟩ := u_known (C := RX10) (T := TX10) (N := 11) (n := 11) hgw CL_X10.2.2.1 (hts _ (List.mem_append_right _ (List.mem_append_left _ (List.mem_of_getElem? (l := tables_1_1) (i := 26) rfl))))
  obtain ⟨c9, i9, k9⟩ := u_known (C := RX11) (T := TX11) (N := 81) (n := 81) hgw CL_X11.2.2.1 (hts _ (List.mem_append_right _ (List.mem_append_right _ (List.mem_append_right _ (List.mem_append_right _ (List.mem_append_right _ (List.mem_append_left _ (List.mem_of_getElem? (l := tables_1_5) (i := 223) rfl))))))))
  obtain ⟨y21, u21, v21⟩ := arr_K (ty := .int) (hts _ (List.mem_append_right _ (List.mem_append_left _ (List.mem_of_getElem? (l := tables_1_1) (i := 129) rfl))))
  obtain ⟨y22, u22, v22⟩ := arr_K (ty := .long) (hts _ (List.mem_append_right _ (List.mem_append_left _ (List.mem_of_getElem? (l := tables_1_1) (i := 130) rfl))))
  obtain ⟨y23, u23, v23⟩ := arr_K (ty := .char) (hts _ (List.mem_append_right _ (List.mem_append_left _ (List.mem_of_getElem? (l := tables_1_1) (i := 64) rfl))))
  obtain ⟨y24, u24, v24⟩ := arr_K (ty := .boolean) (hts _ (List.mem_append_right _ (List.mem_append_left _ (List.mem_of_getElem? (l := tables_1_1) (i := 223) rfl))))
  have ao1 := hts _ (List.mem_append_right _ (List.mem_append_left _ (List.mem_of_getElem? (l := tables_1_1) (i := 225) rfl)))
  have ao2 := hts _ (List.mem_append_right _ (List.mem_append_right _ (List.mem_append_right _ (List.mem_append_right _ (List.mem_append_right _ (List.mem_append_left _ (List.mem_of_getElem? (l := tables_1_5) (i := 230) rfl)))))))
  obtain ⟨y25, u25, v25⟩ := arr_O ao1
  obtain ⟨y26, u26, v26⟩ := arr_O ao2
  have hA : ∀ a : Nat, a < s.heap.size → ¬ (fun q : Nat => s.heap.size ≤ q) a := fun a h q => absurd h (by simpa using q)
  have hs0 : ∀ i : Nat, ∃ q : Nat × Nat, i < 74 → (tS i).eval args s none [] s = some (.ref q.1) ∧ va_O "java/lang/String" q.1 (fun q : Nat => s.heap.size ≤ q) s s.heap ∧ va_OF "java/lang/String" "coder" "B" (.int 0) q.1 (fun q : Nat => s.heap.size ≤ q) s s.heap ∧ va_OF "java/lang/String" "value" "[B" (.ref q.2) q.1 (fun q : Nat => s.heap.size ≤ q) s s.heap ∧ va_T .byte q.2 (sLen.getD i 0) (fun j => .int ((sByt.getD i []).getD j 0)) (fun q : Nat => s.heap.size ≤ q) s s.heap := by
    intro i
    by_cases hi : i < 74
    · obtain ⟨a, c, cA, kA, q1, q2, q3, q4, q5, q6, -⟩ := Cond.exactly_spec (args := args) (first := s) (o := none) (s := s) (idx := []) (t := tS i) (cls := "java/lang/String") (lf_sx h1 h2 h3 h4 i hi)
      obtain ⟨t, ht, hT⟩ := va_Tof (f := fun j => .int ((sByt.getD i []).getD j 0)) (A := fun q : Nat => s.heap.size ≤ q) (sLen_ok i hi) (lf_sa h1 h2 h3 h4 i hi) (va_eqt (lf_sl h1 h2 h3 h4 i hi)) (fun j hj => va_eqt (lf_sb h1 h2 h3 h4 i hi j hj)) hA
      exact ⟨(a, t), fun _ => ⟨q1, va_Oof (lf_sx h1 h2 h3 h4 i hi) q1 hA, vk_OFof q1 (va_eqt (lf_sc h1 h2 h3 h4 i hi)) hA, vk_OFof q1 ht hA, hT⟩⟩
    · exact ⟨(0, 0), fun h => absurd h hi⟩
  obtain ⟨ad, had⟩ := Classical.axiomOfChoice hs0
  have he0 : ∀ j : Nat, ∃ a : Nat, j < 61 → (tE j).eval args s none [] s = some (.ref a) := by
    intro j
    by_cases hj : j < 61
    · obtain ⟨a, c, cA, kA, q1, -⟩ := Cond.exactly_spec (args := args) (first := s) (o := none) (s := s) (idx := []) (t := tE j) (cls := "CoreHouse$Mnemonic") (lf_ex h1 h2 h3 h4 j hj)
      exact ⟨a, fun _ => q1⟩
    · exact ⟨0, fun h => absurd h hj⟩
  obtain ⟨ae, hae⟩ := Classical.axiomOfChoice he0
  obtain ⟨t0, e0, T0⟩ := va_Tof (tm := .static "CoreHouse" "CHANNELS" "[I") (N := 11) (f := fun j => .int (tCH.getD j 0)) (A := fun q : Nat => s.heap.size ≤ q) (by decide) (pth_use [true, true, true, true, true, true, false, true] narrow_1_1 _ rfl h1) (va_eqt (pth_use [true, true, true, true, true, true, false, false, true] narrow_1_1 _ rfl h1)) (fun j hj => va_eqt (lf_ch h1 h2 h3 h4 j hj)) hA
  obtain ⟨t1, e1, T1⟩ := va_Tof (tm := .static "CoreHouse" "BYTE_BITS" "[I") (N := 16) (f := fun j => .int (tBB.getD j 0)) (A := fun q : Nat => s.heap.size ≤ q) (by decide) (pth_use [true, true, false, false, false, true, false, true] narrow_1_1 _ rfl h1) (va_eqt (pth_use [true, true, false, false, false, true, false, false, true] narrow_1_1 _ rfl h1)) (fun j hj => va_eqt (lf_bb h1 h2 h3 h4 j hj)) hA
  obtain ⟨t2, e2, T2⟩ := va_Tof (tm := .static "CoreHouse" "MNEMONICS" "[LCoreHouse$Mnemonic;") (ty := .object "CoreHouse$Mnemonic") (N := 61) (f := fun j => .ref (ae j)) (A := fun q : Nat => s.heap.size ≤ q) (by decide) (pth_use [true, true, true, true, false, false, true, true] narrow_1_1 _ rfl h1) (va_eqt (pth_use [true, true, true, true, false, false, true, false, true] narrow_1_1 _ rfl h1)) (fun j hj => va_eqv (lf_mn h1 h2 h3 h4 j hj) (hae j hj)) hA
  have Z0 := va_Zof (A := fun q : Nat => s.heap.size ≤ q) (hts _ (List.mem_append_right _ (List.mem_append_right _ (List.mem_append_right _ (List.mem_append_left _ (List.mem_of_getElem? (l := tables_1_3) (i := 77) rfl)))))) (hts _ (List.mem_append_right _ (List.mem_append_left _ (List.mem_of_getElem? (l := tables_1_1) (i := 1) rfl)))) e0 hA
  have Z1 := va_Zof (A := fun q : Nat => s.heap.size ≤ q) (hts _ (List.mem_append_right _ (List.mem_append_right _ (List.mem_append_right _ (List.mem_append_right _ (List.mem_append_left _ (List.mem_of_getElem? (l := tables_1_4) (i := 199) rfl))))))) (hts _ (List.mem_append_right _ (List.mem_append_left _ (List.mem_of_getElem? (l := tables_1_1) (i := 1) rfl)))) e1 hA
  have Z2 := va_Zof (A := fun q : Nat => s.heap.size ≤ q) (hts _ (List.mem_append_right _ (List.mem_append_right _ (List.mem_append_right _ (List.mem_append_left _ (List.mem_of_getElem? (l := tables_1_3) (i := 166) rfl)))))) (hts _ (List.mem_append_right _ (List.mem_append_left _ (List.mem_of_getElem? (l := tables_1_1) (i := 1) rfl)))) e2 hA
  have Z3 := va_Zof (A := fun q : Nat => s.heap.size ≤ q) (hts _ (List.mem_append_right _ (List.mem_append_right _ (List.mem_append_right _ (List.mem_append_left _ (List.mem_of_getElem? (l := tables_1_3) (i := 180) rfl)))))) (hts _ (List.mem_append_right _ (List.mem_append_left _ (List.mem_of_getElem? (l := tables_1_1) (i := 12) rfl)))) (va_eqi (pth_use [true, true, false, false, true, false, true, false, true] narrow_1_1 _ rfl h1)) hA
  have Z4 := va_Zqof (A := fun q : Nat => s.heap.size ≤ q) (hts _ (List.mem_append_right _ (List.mem_append_right _ (List.mem_append_right _ (List.mem_append_left _ (List.mem_of_getElem? (l := tables_1_3) (i := 196) rfl)))))) (hts _ (List.mem_append_right _ (List.mem_append_left _ (List.mem_of_getElem? (l := tables_1_1) (i := 14) rfl)))) (pth_use [true, true, false, false, true, false, true, false, false] narrow_1_1 _ rfl h1) hA
  have Z5 := vx_Zqof (A := fun q : Nat => s.heap.size ≤ q) (hts _ (List.mem_append_right _ (List.mem_append_right _ (List.mem_append_right _ (List.mem_append_right _ (List.mem_append_left _ (List.mem_of_getElem? (l := tables_1_4) (i := 71) rfl))))))) (hts _ (List.mem_append_right _ (List.mem_append_left _ (List.mem_of_getElem? (l := tables_1_1) (i := 16) rfl)))) (pth_use [true, true, false, false, false, true, true, true] narrow_1_1 _ rfl h1) hA
  have Z6 := vx_Zqof (A := fun q : Nat => s.heap.size ≤ q) (hts _ (List.mem_append_right _ (List.mem_append_right _ (List.mem_append_right _ (List.mem_append_right _ (List.mem_append_left _ (List.mem_of_getElem? (l := tables_1_4) (i := 73) rfl))))))) (hts _ (List.mem_append_right _ (List.mem_append_left _ (List.mem_of_getElem? (l := tables_1_1) (i := 16) rfl)))) (pth_use [true, true, false, false, false, true, true, false, true] narrow_1_1 _ rfl h1) hA
  have hr : ∃ r3 r4 : Nat, va_Z "jdk/internal/util/Preconditions" "SIOOBE_FORMATTER" "Ljava/util/function/BiFunction;" (if r3 = 0 then .null else .ref r4) (fun q : Nat => s.heap.size ≤ q) s s.heap := by
    rcases Z4 with h | ⟨t, h⟩
    · exact ⟨0, 0, h⟩
    · exact ⟨1, t, h⟩
  obtain ⟨r3, r4, Z4⟩ := hr
  refine ⟨(s.heap.size, (fun c => [c0, c1, c2, c3, c4, c5, c6, c7, c8, c9].getD c c0, fun c => [i0, i1, i2, i3, i4, i5, i6, i7, i8, i9].getD c i0), fun k => if k = 21 then y21 else if k = 22 then y22 else if k = 23 then y23 else if k = 24 then y24 else if k = 25 then y25 else y26, fA t0 t1 t2 r3 r4 ae ad), rfl, ⟨fun c q hq => ?_, fun c q hq => ?_⟩, ?_⟩
  · match c, hq with
    | 0, hq =>
      have e9 := Option.some.inj (show some (RX1, TX1, 18) = some q from hq)
      subst e9
      exact k0
    | 1, hq =>
      have e9 := Option.some.inj (show some (RX2, TX2, 7) = some q from hq)
      subst e9
      exact k1
    | 2, hq =>
      have e9 := Option.some.inj (show some (RX3, TX3, 17) = some q from hq)
      subst e9
      exact k2
    | 3, hq =>
      have e9 := Option.some.inj (show some (RX4, TX4, 17) = some q from hq)
      subst e9
      exact k3
    | 4, hq =>
      have e9 := Option.some.inj (show some (RX6, TX6, 4) = some q from hq)
      subst e9
      exact k4
    | 5, hq =>
      have e9 := Option.some.inj (show some (RX7, TX7, 3) = some q from hq)
      subst e9
      exact k5
    | 6, hq =>
      have e9 := Option.some.inj (show some (RX8, TX8, 6) = some q from hq)
      subst e9
      exact k6
    | 7, hq =>
      have e9 := Option.some.inj (show some (RX9, TX9, 2) = some q from hq)
      subst e9
      exact k7
    | 8, hq =>
      have e9 := Option.some.inj (show some (RX10, TX10, 11) = some q from hq)
      subst e9
      exact k8
    | 9, hq =>
      have e9 := Option.some.inj (show some (RX11, TX11, 81) = some q from hq)
      subst e9
      exact k9
    | n + 10, hq => exact nomatch (show (none : Option vw_C) = some q from hq)
  · match c, hq with
    | 0, hq =>
      have e9 := Option.some.inj (show some (y21, FieldType.int) = some q from hq)
      subst e9
      exact ⟨u21, v21⟩
    | 1, hq =>
      have e9 := Option.some.inj (show some (y22, FieldType.long) = some q from hq)
      subst e9
      exact ⟨u22, v22⟩
    | 2, hq =>
      have e9 := Option.some.inj (show some (y23, FieldType.char) = some q from hq)
      subst e9
      exact ⟨u23, v23⟩
    | 3, hq =>
      have e9 := Option.some.inj (show some (y24, FieldType.boolean) = some q from hq)
      subst e9
      exact ⟨u24, v24⟩
    | 4, hq =>
      have e9 := Option.some.inj (show some (y25, FieldType.object "CoreHouse$Core") = some q from hq)
      subst e9
      exact ⟨u25, v25⟩
    | 5, hq =>
      have e9 := Option.some.inj (show some (y26, FieldType.object "java/lang/String") = some q from hq)
      subst e9
      exact ⟨u26, v26⟩
    | n + 6, hq => exact nomatch (show (none : Option (ClassId × FieldType)) = some q from hq)
  · refine ⟨⟨⟨Z0, T0⟩, ⟨Z1, T1⟩, ⟨Z2, ?_⟩, Z3, Z4⟩, fun j hj => ?_, fun i h0 hi => ?_, ⟨?_, ?_, ao1, ao2, trivial⟩, fun j t ht => ?_, Z5, Z6, ?_, ?_, ?_⟩
    · obtain ⟨cell, w1, w2, w3, w4, w5, w6, w7⟩ := T2
      refine ⟨cell, w1, w2, w3, w4, w5, fun j hj => ?_, w7⟩
      rw [w6 j hj]
      show some (Value.ref (ae j)) = some (Value.ref (fA t0 t1 t2 r3 r4 ae ad (100 + j)))
      rw [fA_e hj]
    · have mo := mOps_ok j hj
      show va_OF "CoreHouse$Mnemonic" "key" "J" (.long (mKey.getD j 0)) (fA t0 t1 t2 r3 r4 ae ad (100 + j)) _ s s.heap ∧ va_OF "CoreHouse$Mnemonic" "form" "I" (.int (mForm.getD j 0)) (fA t0 t1 t2 r3 r4 ae ad (100 + j)) _ s s.heap ∧ va_OF "CoreHouse$Mnemonic" "base" "I" (.int (mBase.getD j 0)) (fA t0 t1 t2 r3 r4 ae ad (100 + j)) _ s s.heap ∧ va_OF "CoreHouse$Mnemonic" "operands" "Ljava/lang/String;" (.ref (fA t0 t1 t2 r3 r4 ae ad (1000 + mOps.getD j 0))) (fA t0 t1 t2 r3 r4 ae ad (100 + j)) _ s s.heap
      rw [fA_e hj, fA_s (by omega) mo.2]
      exact ⟨vk_OFof (hae j hj) (va_eqtl (lf_key h1 h2 h3 h4 j hj)) hA, vk_OFof (hae j hj) (va_eqt (lf_form h1 h2 h3 h4 j hj)) hA, vk_OFof (hae j hj) (va_eqt (lf_base h1 h2 h3 h4 j hj)) hA, vk_OFof (hae j hj) (va_eqv (lf_ops h1 h2 h3 h4 j hj) (had _ (by omega)).1) hA⟩
    · have hi : i ≤ 74 := hi
      show va_O "java/lang/String" (fA t0 t1 t2 r3 r4 ae ad (1000 + i)) _ s s.heap ∧ va_OF "java/lang/String" "coder" "B" (.int 0) (fA t0 t1 t2 r3 r4 ae ad (1000 + i)) _ s s.heap ∧ va_OF "java/lang/String" "value" "[B" (.ref (fA t0 t1 t2 r3 r4 ae ad (2000 + i))) (fA t0 t1 t2 r3 r4 ae ad (1000 + i)) _ s s.heap ∧ va_T .byte (fA t0 t1 t2 r3 r4 ae ad (2000 + i)) (sLen.getD (i - 1) 0) (fun j => .int ((sByt.getD (i - 1) []).getD j 0)) _ s s.heap
      rw [fA_s h0 hi, fA_v h0 hi]
      exact (had (i - 1) (by omega)).2
    · exact (List.forall_mem_cons.mpr ⟨va_Nw.of rfl (hts _ (List.mem_append_right _ (List.mem_append_right _ (List.mem_append_right _ (List.mem_append_left _ (List.mem_of_getElem? (l := tables_1_3) (i := 76) rfl)))))), (List.forall_mem_cons.mpr ⟨va_Nw.of rfl (hts _ (List.mem_append_right _ (List.mem_append_right _ (List.mem_append_right _ (List.mem_append_left _ (List.mem_of_getElem? (l := tables_1_3) (i := 165) rfl)))))), (List.forall_mem_cons.mpr ⟨va_Nw.of rfl (hts _ (List.mem_append_right _ (List.mem_append_right _ (List.mem_append_right _ (List.mem_append_right _ (List.mem_append_left _ (List.mem_of_getElem? (l := tables_1_4) (i := 198) rfl))))))), (List.forall_mem_cons.mpr ⟨va_Nw.of rfl (hts _ (List.mem_append_right _ (List.mem_append_right _ (List.mem_append_right _ (List.mem_append_right _ (List.mem_append_right _ (List.mem_append_left _ (List.mem_of_getElem? (l := tables_1_5) (i := 24) rfl)))))))), (fun _ h => absurd h List.not_mem_nil)⟩)⟩)⟩)⟩)
    · exact (List.forall_mem_cons.mpr ⟨va_Nw.of rfl (hts _ (List.mem_append_right _ (List.mem_append_left _ (List.mem_of_getElem? (l := tables_1_1) (i := 35) rfl)))), (List.forall_mem_cons.mpr ⟨va_Nw.of rfl (hts _ (List.mem_append_right _ (List.mem_append_left _ (List.mem_of_getElem? (l := tables_1_1) (i := 133) rfl)))), (List.forall_mem_cons.mpr ⟨va_Nw.of rfl (hts _ (List.mem_append_right _ (List.mem_append_left _ (List.mem_of_getElem? (l := tables_1_1) (i := 233) rfl)))), (List.forall_mem_cons.mpr ⟨va_Nw.of rfl (hts _ (List.mem_append_right _ (List.mem_append_right _ (List.mem_append_left _ (List.mem_of_getElem? (l := tables_1_2) (i := 10) rfl))))), (List.forall_mem_cons.mpr ⟨va_Nw.of rfl (hts _ (List.mem_append_right _ (List.mem_append_right _ (List.mem_append_left _ (List.mem_of_getElem? (l := tables_1_2) (i := 43) rfl))))), (List.forall_mem_cons.mpr ⟨va_Nw.of rfl (hts _ (List.mem_append_right _ (List.mem_append_right _ (List.mem_append_right _ (List.mem_append_right _ (List.mem_append_left _ (List.mem_of_getElem? (l := tables_1_4) (i := 121) rfl))))))), (List.forall_mem_cons.mpr ⟨va_Nw.of rfl (hts _ (List.mem_append_right _ (List.mem_append_right _ (List.mem_append_right _ (List.mem_append_right _ (List.mem_append_left _ (List.mem_of_getElem? (l := tables_1_4) (i := 139) rfl))))))), (List.forall_mem_cons.mpr ⟨va_Nw.of rfl (hts _ (List.mem_append_right _ (List.mem_append_right _ (List.mem_append_right _ (List.mem_append_right _ (List.mem_append_left _ (List.mem_of_getElem? (l := tables_1_4) (i := 191) rfl))))))), (fun _ h => absurd h List.not_mem_nil)⟩)⟩)⟩)⟩)⟩)⟩)⟩)⟩)
    · obtain ⟨hj, hv⟩ := List.getElem?_eq_some_iff.mp ht
      have hj : j < 61 := hj
      have hd : ldcN.getD j (0, "") = t := by rw [List.getD_eq_getElem?_getD, ht]; rfl
      have w := lf_sr hts j hj
      rw [hd] at w
      show vk_R "CoreHouseModel" t.1 t.2 (fA t0 t1 t2 r3 r4 ae ad (1001 + j)) s
      rw [show 1001 + j = 1000 + (1 + j) by omega, fA_s (by omega) (by omega)]
      have q := (had j (by omega)).1
      rw [show 1 + j - 1 = j by omega]
      have e9 : tS j = .string "CoreHouseModel" t.1 := by rw [← hd]; exact tS_ldc j hj
      rw [e9] at q
      exact vk_R.of w q
    · exact (List.forall_mem_cons.mpr ⟨va_Nw.of rfl (hts _ (List.mem_append_right _ (List.mem_append_right _ (List.mem_append_right _ (List.mem_append_right _ (List.mem_append_left _ (List.mem_of_getElem? (l := tables_1_4) (i := 46) rfl))))))), (List.forall_mem_cons.mpr ⟨va_Nw.of rfl (hts _ (List.mem_append_right _ (List.mem_append_right _ (List.mem_append_right _ (List.mem_append_right _ (List.mem_append_left _ (List.mem_of_getElem? (l := tables_1_4) (i := 150) rfl))))))), (List.forall_mem_cons.mpr ⟨va_Nw.of rfl (hts _ (List.mem_append_right _ (List.mem_append_right _ (List.mem_append_right _ (List.mem_append_right _ (List.mem_append_right _ (List.mem_append_left _ (List.mem_of_getElem? (l := tables_1_5) (i := 130) rfl)))))))), (fun _ h => absurd h List.not_mem_nil)⟩)⟩)⟩)
    · exact (List.forall_mem_cons.mpr ⟨(sr_of (hts _ (List.mem_append_right _ (List.mem_append_right _ (List.mem_append_right _ (List.mem_append_right _ (List.mem_append_left _ (List.mem_of_getElem? (l := tables_1_4) (i := 85) rfl))))))) (pth_use [true, false, true, true, false, true, true, false, true] narrow_1_2 _ rfl h2)), (List.forall_mem_cons.mpr ⟨(sr_of (hts _ (List.mem_append_right _ (List.mem_append_right _ (List.mem_append_right _ (List.mem_append_right _ (List.mem_append_left _ (List.mem_of_getElem? (l := tables_1_4) (i := 157) rfl))))))) (pth_use [true, false, true, false, false, true, true, true] narrow_1_2 _ rfl h2)), (List.forall_mem_cons.mpr ⟨(sr_of (hts _ (List.mem_append_right _ (List.mem_append_right _ (List.mem_append_right _ (List.mem_append_right _ (List.mem_append_right _ (List.mem_append_left _ (List.mem_of_getElem? (l := tables_1_5) (i := 85) rfl)))))))) (pth_use [true, false, false, true, true, true, false, true] narrow_1_2 _ rfl h2)), (List.forall_mem_cons.mpr ⟨(sr_of (hts _ (List.mem_append_right _ (List.mem_append_right _ (List.mem_append_right _ (List.mem_append_right _ (List.mem_append_right _ (List.mem_append_left _ (List.mem_of_getElem? (l := tables_1_5) (i := 104) rfl)))))))) (pth_use [true, false, false, true, false, false, false, true, false] narrow_1_2 _ rfl h2)), (List.forall_mem_cons.mpr ⟨(sr_of (hts _ (List.mem_append_right _ (List.mem_append_right _ (List.mem_append_right _ (List.mem_append_right _ (List.mem_append_right _ (List.mem_append_left _ (List.mem_of_getElem? (l := tables_1_5) (i := 137) rfl)))))))) (pth_use [false, true, true, true, true, true, true, true] narrow_1_2 _ rfl h2)), (List.forall_mem_cons.mpr ⟨(sr_of (hts _ (List.mem_append_right _ (List.mem_append_right _ (List.mem_append_right _ (List.mem_append_right _ (List.mem_append_right _ (List.mem_append_left _ (List.mem_of_getElem? (l := tables_1_5) (i := 159) rfl)))))))) (pth_use [false, true, true, false, true, true, false, false, true] narrow_1_2 _ rfl h2)), (List.forall_mem_cons.mpr ⟨(sr_of (hts _ (List.mem_append_right _ (List.mem_append_right _ (List.mem_append_right _ (List.mem_append_right _ (List.mem_append_right _ (List.mem_append_left _ (List.mem_of_getElem? (l := tables_1_5) (i := 174) rfl)))))))) (pth_use [false, true, false, true, true, true, false, false, false] narrow_1_2 _ rfl h2)), (List.forall_mem_cons.mpr ⟨(sr_of (hts _ (List.mem_append_right _ (List.mem_append_right _ (List.mem_append_right _ (List.mem_append_right _ (List.mem_append_right _ (List.mem_append_left _ (List.mem_of_getElem? (l := tables_1_5) (i := 184) rfl)))))))) (pth_use [false, true, false, true, false, false, false, true, true] narrow_1_2 _ rfl h2)), (List.forall_mem_cons.mpr ⟨(sr_of (hts _ (List.mem_append_right _ (List.mem_append_right _ (List.mem_append_right _ (List.mem_append_right _ (List.mem_append_right _ (List.mem_append_left _ (List.mem_of_getElem? (l := tables_1_5) (i := 196) rfl)))))))) (pth_use [false, true, false, false, false, false, false, false, false] narrow_1_2 _ rfl h2)), (List.forall_mem_cons.mpr ⟨(sr_of (hts _ (List.mem_append_right _ (List.mem_append_right _ (List.mem_append_right _ (List.mem_append_right _ (List.mem_append_right _ (List.mem_append_left _ (List.mem_of_getElem? (l := tables_1_5) (i := 220) rfl)))))))) (pth_use [false, false, true, true, false, true, false, true] narrow_1_2 _ rfl h2)), (fun _ h => absurd h List.not_mem_nil)⟩)⟩)⟩)⟩)⟩)⟩)⟩)⟩)⟩)⟩)
    · exact (List.forall_mem_cons.mpr ⟨va_Nw.of rfl (hts _ (List.mem_append_right _ (List.mem_append_right _ (List.mem_append_right _ (List.mem_append_right _ (List.mem_append_left _ (List.mem_of_getElem? (l := tables_1_4) (i := 48) rfl))))))), (List.forall_mem_cons.mpr ⟨va_Nw.of rfl (hts _ (List.mem_append_right _ (List.mem_append_right _ (List.mem_append_right _ (List.mem_append_right _ (List.mem_append_left _ (List.mem_of_getElem? (l := tables_1_4) (i := 50) rfl))))))), (List.forall_mem_cons.mpr ⟨va_Nw.of rfl (hts _ (List.mem_append_right _ (List.mem_append_right _ (List.mem_append_right _ (List.mem_append_right _ (List.mem_append_left _ (List.mem_of_getElem? (l := tables_1_4) (i := 52) rfl))))))), (fun _ h => absurd h List.not_mem_nil)⟩)⟩)⟩)
