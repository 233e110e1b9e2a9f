/-! WHAT HOLDS AT THE START -/
abbrev newA (s : State) : Nat → Prop := fun q => s.heap.size ≤ q
theorem newA_in (s : State) : ∀ q, s.heap.size ≤ q → newA s q := fun _ h => h
theorem NC_start {s : State} {args : Array Value} (hgv : (Jvm.Cond.and given_1 narrow_1).before args s = true) : NC s := by
  have hs := flat_of_before _ hgv
  exact ⟨⟨va_Nc.of (hs (.not (.castable "java/lang/IllegalArgumentException" "java/lang/IndexOutOfBoundsException")) (by decide +kernel)), va_Nc.of (hs (.not (.castable "java/lang/IllegalStateException" "java/lang/IndexOutOfBoundsException")) (by decide +kernel)), va_Nc.of (hs (.not (.castable "java/util/NoSuchElementException" "java/lang/IndexOutOfBoundsException")) (by decide +kernel))⟩, ⟨va_Nc.of (hs (.not (.castable "java/lang/IllegalStateException" "java/lang/IllegalArgumentException")) (by decide +kernel)), va_Nc.of (hs (.not (.castable "java/util/NoSuchElementException" "java/lang/IllegalArgumentException")) (by decide +kernel))⟩, va_Nc.of (hs (.not (.castable "java/util/NoSuchElementException" "java/lang/IllegalStateException")) (by decide +kernel))⟩
theorem arr_int {s : State} {args : Array Value} (h : (Cond.arrayClass .int).before args s = true) : ∃ cA, ArrOfT s cA .int ∧ va_RA s cA .int := by
  obtain ⟨c, k, comp, h1, h2, h3⟩ := Cond.arrayClass_spec h
  exact ⟨c, fun n z => ⟨fun k h => (by cases h), k, h2, comp, h3⟩, h1⟩
theorem arr_long {s : State} {args : Array Value} (h : (Cond.arrayClass .long).before args s = true) : ∃ cA, ArrOfT s cA .long ∧ va_RA s cA .long := by
  obtain ⟨c, k, comp, h1, h2, h3⟩ := Cond.arrayClass_spec h
  exact ⟨c, fun n z => ⟨fun k h => (by cases h), k, h2, comp, h3⟩, h1⟩
theorem arr_obj {C : String} {s : State} {args : Array Value} (h : (Cond.arrayOver (.object C)).before args s = true) : ∃ cA, ArrOfT s cA (.object C) ∧ va_RA s cA (.object C) := by
  obtain ⟨comp, c, k, h1, h2, h3, h4, h5⟩ := Cond.arrayOver_spec h
  exact ⟨c, fun n z => ⟨fun k h => (by cases h), k, h3, comp, h4⟩, k, comp, h3, h4, h1, h5⟩
theorem KS_start {s : State} {args : Array Value} (hts : ∀ w ∈ lw_tbl, w.before args s = true) : ∃ (D : va_G) (dA : Nat → ClassId), KS D dA s := by
  have hW : ∀ w ∈ WU, w.before args s = true := fun w h => hts w (List.mem_filter.mp h).1
  have hN : ∀ w ∈ NWL, w.before args s = true := fun w h => hts w (List.mem_filter.mp h).1
  obtain ⟨c0, i0, k0⟩ := u_known (n := 3) hW iuJx4a65c (hts _ (lw_in1 (List.mem_of_getElem? (i := 38) rfl)))
  obtain ⟨c1, i1, k1⟩ := u_known (n := 8) hW iuX0 (hts _ (lw_in1 (List.mem_of_getElem? (i := 63) rfl)))
  obtain ⟨c2, i2, k2⟩ := u_known (n := 2) hW iuX1 (hts _ (lw_in1 (List.mem_of_getElem? (i := 116) rfl)))
  obtain ⟨c3, i3, k3⟩ := u_known (n := 6) hW iuX2 (hts _ (lw_in2 (List.mem_of_getElem? (i := 146) rfl)))
  obtain ⟨c4, i4, k4⟩ := u_known (n := 3) hW iuX3 (hts _ (lw_in1 (List.mem_of_getElem? (i := 99) rfl)))
  obtain ⟨c5, i5, k5⟩ := u_known (n := 5) hW iuX4 (hts _ (lw_in3 (List.mem_of_getElem? (i := 16) rfl)))
  obtain ⟨c6, i6, k6⟩ := u_known (n := 8) hW iuX5 (hts _ (lw_in1 (List.mem_of_getElem? (i := 24) rfl)))
  obtain ⟨a0, b0⟩ := arr_int (hts _ (lw_in1 (List.mem_of_getElem? (i := 98) rfl)))
  obtain ⟨a1, b1⟩ := arr_long (hts _ (lw_in1 (List.mem_of_getElem? (i := 97) rfl)))
  obtain ⟨a2, b2⟩ := arr_int (hts _ (lw_in1 (List.mem_of_getElem? (i := 98) rfl)))
  obtain ⟨a3, b3⟩ := arr_obj (hts _ (lw_in1 (List.mem_of_getElem? (i := 32) rfl)))
  obtain ⟨a4, b4⟩ := arr_obj (hts _ (lw_in1 (List.mem_of_getElem? (i := 34) rfl)))
  obtain ⟨a5, b5⟩ := arr_obj (hts _ (lw_in1 (List.mem_of_getElem? (i := 36) rfl)))
  obtain ⟨a6, b6⟩ := arr_obj (hts _ (lw_in2 (List.mem_of_getElem? (i := 222) rfl)))
  refine ⟨(fun k => match k with | 0 => c0 | 1 => c1 | 2 => c2 | 3 => c3 | 4 => c4 | 5 => c5 | 6 => c6 | _ => 0, fun k => match k with | 0 => i0 | 1 => i1 | 2 => i2 | 3 => i3 | 4 => i4 | 5 => i5 | 6 => i6 | _ => fun _ => 0), fun k => match k with | 0 => a0 | 1 => a1 | 2 => a2 | 3 => a3 | 4 => a4 | 5 => a5 | 6 => a6 | _ => 0, ⟨fun c q hq => ?_, fun k q hk => ?_⟩, fun w hw => ?_⟩
  · match c, hq with
    | 0, hq =>
      have hq : some (RJx4a65c, TJx4a65c, 3) = some q := hq
      cases hq
      exact k0
    | 1, hq =>
      have hq : some (RX0, TX0, 8) = some q := hq
      cases hq
      exact k1
    | 2, hq =>
      have hq : some (RX1, TX1, 2) = some q := hq
      cases hq
      exact k2
    | 3, hq =>
      have hq : some (RX2, TX2, 6) = some q := hq
      cases hq
      exact k3
    | 4, hq =>
      have hq : some (RX3, TX3, 3) = some q := hq
      cases hq
      exact k4
    | 5, hq =>
      have hq : some (RX4, TX4, 5) = some q := hq
      cases hq
      exact k5
    | 6, hq =>
      have hq : some (RX5, TX5, 8) = some q := hq
      cases hq
      exact k6
    | c + 7, hq => exact absurd hq (by intro h; cases h)
  · match k, hk with
    | 0, hk =>
      have hk : some _ = some q := hk
      cases hk
      exact b0
    | 1, hk =>
      have hk : some _ = some q := hk
      cases hk
      exact b1
    | 2, hk =>
      have hk : some _ = some q := hk
      cases hk
      exact b2
    | 3, hk =>
      have hk : some _ = some q := hk
      cases hk
      exact b3
    | 4, hk =>
      have hk : some _ = some q := hk
      cases hk
      exact b4
    | 5, hk =>
      have hk : some _ = some q := hk
      cases hk
      exact b5
    | 6, hk =>
      have hk : some _ = some q := hk
      cases hk
      exact b6
    | k + 7, hk => exact absurd hk (by intro h; cases h)
  · have h1 := hN w hw
    have h2 := (List.mem_filter.mp hw).2
    unfold nestW at h2
    split at h2
    · exact va_Nw.of rfl h1
    · exact va_Nw.of rfl h1
    · exact va_Nw.of rfl h1
    · exact va_Nw.of rfl h1
    · exact va_AO.of h1
    · cases h2
theorem EXT_start {s : State} {args : Array Value} (hts : ∀ w ∈ lw_tbl, w.before args s = true) (hgv : (Jvm.Cond.and given_1 narrow_1).before args s = true) : ∃ x mi, EXT x mi (newA s) s s.heap := by
  have hs := flat_of_before _ hgv
  have hA : ∀ a : Nat, a < s.heap.size → ¬ newA s a := fun a h z => absurd z (by show ¬ s.heap.size ≤ a; omega)
  obtain ⟨x, ex, hT⟩ := va_Tof (N := 0) (f := fun _ => .null) (A := newA s) (by decide) (hs (.arrayOf (.static "java/util/ArrayList" "DEFAULTCAPACITY_EMPTY_ELEMENTDATA" "[Ljava/lang/Object;") (.object "java/lang/Object")) (by decide +kernel)) (va_eqt (hs (.eq (.length (.static "java/util/ArrayList" "DEFAULTCAPACITY_EMPTY_ELEMENTDATA" "[Ljava/lang/Object;")) (.int 0)) (by decide +kernel))) (fun j hj => absurd hj (Nat.not_lt_zero j)) hA
  obtain ⟨mi, hM⟩ := va_Mi.of (hs (.isRef (.mirror "[Ljava/lang/Object;")) (by decide +kernel))
  exact ⟨x, mi, va_Zof (hts _ (lw_in1 (List.mem_of_getElem? (i := 50) rfl))) (hts _ (lw_in1 (List.mem_of_getElem? (i := 4) rfl))) ex hA, hT, ⟨hM, NC_start hgv⟩, vx_Zqof (hts _ (lw_in1 (List.mem_of_getElem? (i := 194) rfl))) (hts _ (lw_in1 (List.mem_of_getElem? (i := 8) rfl))) (hs (.isRef (.static "java/lang/Throwable" "UNASSIGNED_STACK" "[Ljava/lang/StackTraceElement;")) (by decide +kernel)) hA, vx_Zqof (hts _ (lw_in1 (List.mem_of_getElem? (i := 196) rfl))) (hts _ (lw_in1 (List.mem_of_getElem? (i := 8) rfl))) (hs (.isRef (.static "java/lang/Throwable" "SUPPRESSED_SENTINEL" "Ljava/util/List;")) (by decide +kernel)) hA⟩
theorem stack_start {l : Launch} (hflags : l.flags = flags0) : l.stackTraces = false := by
  unfold Launch.stackTraces
  rw [hflags]
  decide
