/-! NEW CELLS: the JDK's rows of a list that grows (by hand) -/
theorem one_D {A : Nat → Prop} {q : Nat × va_E} (h : A q.1) : va_D A [q] := by
  refine ⟨fun i j x y h1 h2 _ => ?_, fun k x hk => ?_⟩
  · have a1 : i < 1 := (List.getElem?_eq_some_iff.mp h1).1
    have a2 : j < 1 := (List.getElem?_eq_some_iff.mp h2).1
    omega
  · have a1 : k < 1 := (List.getElem?_eq_some_iff.mp hk).1
    rw [show k = 0 by omega] at hk
    cases hk
    exact h
/-- an element of a list: an order or a trade -/
def EL (D : va_G) (H : Heap) (y : Nat) : Prop := ∃ (ci : Nat) (fs : List Value), (ci = 3 ∨ ci = 5) ∧ va_at D vwCl (y, .inr (ci, fs)) H
theorem EL_any {D : va_G} {dA : Nat → ClassId} {s : State} {H : Heap} {y : Nat} (hK : KS D dA s) (h : EL D H y) : va_Any "java/lang/Object" s H y := by
  obtain ⟨ci, fs, hci, ha⟩ := h
  have hc : ∀ C : String, va_Nw (.castable C "java/lang/Object") s → ∀ comp c0 : ClassId, s.vm.findClass "java/lang/Object" = some comp → s.vm.findClass C = some c0 → s.vm.assignable c0 comp = true := by
    intro C hw comp c0 h1 h2
    have hw : (Cond.castable C "java/lang/Object").before #[] s = true := hw
    obtain ⟨c3, c4, e3, e4, hasg⟩ := Cond.castable_spec hw
    cases h1.symm.trans e4
    cases h2.symm.trans e3
    exact hasg
  rcases hci with rfl | rfl
  · exact va_rAny hK.1 (one_of ha) (q0 := 0) rfl (r := (RX2, TX2, 6)) rfl (hc RX2 (hK.2 _ q_783))
  · exact va_rAny hK.1 (one_of ha) (q0 := 0) rfl (r := (RX4, TX4, 5)) rfl (hc RX4 (hK.2 _ q_784))
theorem dA6 {D : va_G} {dA : Nat → ClassId} {cl : List vw_C} {s : State} {cA : ClassId} (h : va_K D cl (TYs dA ++ [(cA, .object "java/lang/Object")]) s) : cA = dA 6 := by
  obtain ⟨k1, c1, -, -, -, e1⟩ := (h.2 6 (dA 6, .object "java/lang/Object") rfl).2
  obtain ⟨k2, c2, -, -, -, e2⟩ := (h.2 7 (cA, .object "java/lang/Object") rfl).2
  exact Option.some.inj (e2.symm.trans e1)
theorem dA0 {D : va_G} {dA : Nat → ClassId} {cl : List vw_C} {s : State} {cA : ClassId} (h : va_K D cl (TYs dA ++ [(cA, .int)]) s) : cA = dA 0 := by
  have e1 : s.vm.findClass ("[" ++ FieldType.int.toString) = some (dA 0) := (h.2 0 (dA 0, .int) rfl).2
  have e2 : s.vm.findClass ("[" ++ FieldType.int.toString) = some cA := (h.2 7 (cA, .int) rfl).2
  exact Option.some.inj (e2.symm.trans e1)
abbrev rfs (f : Nat → Option Nat) : (Nat → Int32) ⊕ (Nat → Int64) ⊕ (Nat → UInt32) ⊕ (Nat → UInt64) ⊕ (Nat → Option Nat) := .inr (.inr (.inr (.inr f)))
theorem ret_r {p : Program} {l : Launch} {e : Env} {R : Room} {s : State} {m : MethodId} {args : Array Value} {below : List Frame} {meth : Method} {c : Code} {H : Heap} {locs : List Loc} {cells slots nL : Nat} {cc : ByteArray} {own : String} {pc : Nat} {ls : Array Slot} {A0 : Nat → Prop} {S : Type} {post : S → Prop} {B : S → Nat → State → Prop} {t0 : FieldType} {a : Nat} (u : S) (hC : CTX p s m args meth c cc nL own (some (.array t0))) (hp : post u) (hB : ∀ t : State, t.heap = H → B u a t) (hS : va_S A0 s.heap H locs) (hdg : decode cc pc = .ok (.areturn, 1)) :
    W p l e R s m args below meth c H locs cells slots (MQ below (va_Qr post B A0) args s cells slots A0) (F0 m pc ls [.ref a]) :=
  W.aret hC.1 hC.2.1 hC.2.2.2.2.2.1 (Or.inr ⟨_, rfl⟩) (Or.inr ⟨_, rfl⟩) (fun t ht hW => ⟨⟨u, a, rfl, hp, hB t ht⟩, hS.F ht⟩) hS.2.2 hdg hC.2.2.2.2.2.2
theorem min_nk {n k : Nat} (h : n ≤ k) (hk : k < 2 ^ 31) : (if nI k < nI n then nI k else nI n) = nI n := if_neg (nI_nlt h hk)
set_option maxHeartbeats 4000000 in
set_option maxRecDepth 100000 in
/-- Arrays.copyOf of a row of references, its class told -/
theorem c_copyOf3 (l : Launch) (D : va_G) (dA : Nat → ClassId) (a n k mi sz : Nat) (f : Nat → Option Nat) (hn : n ≤ k) (hk : k < 2 ^ 27) : Met l yJ7_copyOf_6403c (WSy yJ7_copyOf_6403c cJ7_copyOf_6403c 4 (some (.array (.object "java/lang/Object")))) ({ frames := 1, cells := 1, slots := k, locals := 40 } : Room)
    (va_Pc [.ref a, .int (nI k), .ref mi] (fun U => U.heap.size = sz ∧ va_at D vwCl (a, .inl (dA 6, n, rfs f)) U.heap ∧ KS D dA U ∧ va_Mi "[Ljava/lang/Object;" mi U ∧ ∀ j, j < n → ∀ y, f j = some y → EL D U.heap y))
    (va_Qr (fun (_ : Unit) => True) (fun _ q t => sz ≤ q ∧ va_at D vwCl (a, .inl (dA 6, n, rfs f)) t.heap ∧ va_at D vwCl (q, .inl (dA 6, k, rfs (va_cpy f (fun _ => none) 0 0 n))) t.heap) (fun q => q = a ∨ sz ≤ q)) 1 k (fun q => q = a ∨ sz ≤ q) := by
  refine met_of (by decide) (Nat.le_of_ble_eq_true rfl) ?_
  intro p e s m below meth c ls hC hB hl
  obtain ⟨rfl, ha, hK, hM, hE⟩ := hB
  have hC : CTX p s m _ meth c cJ7_copyOf_6403c 4 RJ7 (some (.array (.object "java/lang/Object"))) := hC
  obtain ⟨hx, hb, hml, hown, hts, hr, hlk⟩ := id hC
  have hl : lv_has ls 4 [(0, .ref a), (1, .int (nI k)), (2, .ref mi)] := hl
  have halt : a < s.heap.size := ha.lt
  have hA : ∀ q : Nat, s.heap.size ≤ q → (fun q => q = a ∨ s.heap.size ≤ q) q := fun q h => Or.inr h
  have hP : va_P D vwCl [(a, .inl (dA 6, n, rfs f))] s.heap := one_of ha
  have hD : va_D (fun q => q = a ∨ s.heap.size ≤ q) [(a, .inl (dA 6, n, rfs f))] := one_D (Or.inl rfl)
  have hS : va_S (fun q => q = a ∨ s.heap.size ≤ q) s.heap s.heap [] := va_S.rf
  refine lv_aload_n hx hb dJ7_copyOf_6403c_0 rfl (lv_at hl 2 rfl) ?_
  refine va_ldcM hx hb hown (hts _ q_495) hM dJ7_copyOf_6403c_1 ?_
  refine lv_acmp_ne (rx := some mi) (ry := some mi) (tgt := 13) hx hb dJ7_copyOf_6403c_3 (by decide) (fun c0 => absurd rfl c0) (fun _ => ?_)
  refine lv_iload_n hx hb dJ7_copyOf_6403c_6 rfl (lv_at hl 1 rfl) ?_
  refine va_newq (C := "java/lang/Object") hx hb hown (hts _ q_497) (hK.2 _ q_496) hK.1 hP hD hS hA (nI_pos (by omega)) (nI_clamp (by omega)) (by omega) (Nat.le_refl _) (Nat.le_of_eq (Nat.zero_add k)) dJ7_copyOf_6403c_7 (fun q cA H hK1 hP hD hS => ?_)
  have hcA := dA6 hK1
  subst hcA
  refine lv_goto (tgt := 24) hx hb dJ7_copyOf_6403c_10 (by decide) ?_
  refine lv_astore_n (lv' := [(3, .ref q), (0, .ref a), (1, .int (nI k)), (2, .ref mi)]) hx hb dJ7_copyOf_6403c_24 rfl hl (by decide) rfl (fun ls hl => ?_)
  refine lv_aload_n hx hb dJ7_copyOf_6403c_25 rfl (lv_at hl 1 rfl) ?_
  refine lv_iconst (v := 0) hx hb dJ7_copyOf_6403c_26 (by decide) ?_
  refine lv_aload_n hx hb dJ7_copyOf_6403c_27 rfl (lv_at hl 0 rfl) ?_
  refine lv_iconst (v := 0) hx hb dJ7_copyOf_6403c_28 (by decide) ?_
  refine lv_aload_n hx hb dJ7_copyOf_6403c_29 rfl (lv_at hl 1 rfl) ?_
  refine va_alen (v := nI n) hx hb hK1 hP 0 6 rfl rfl rfl dJ7_copyOf_6403c_30 ?_
  refine lv_iload_n hx hb dJ7_copyOf_6403c_31 rfl (lv_at hl 2 rfl) ?_
  refine va_mmin hx hb (hml.trans hl.1.symm) hown (hts _ q_498) (hts _ q_341) (hts _ q_48) (hts _ q_342) (Nat.le_of_ble_eq_true rfl) (Nat.le_of_ble_eq_true rfl) (Nat.le_refl _) (Nat.le_of_eq (Nat.zero_add k)) dJ7_copyOf_6403c_32 ?_
  rw [min_nk hn (by omega)]
  refine va_copyM hx hb (hml.trans hl.1.symm) hown (hts _ q_499) (hts _ q_501) (hts _ q_500) (hts _ q_54) hK1 hP hD hS 0 1 6 6 rfl rfl rfl rfl (by decide) (by decide) (nI_pos (by omega)) (by rw [sb_cl0, nI_clamp (by omega)]; omega) (by rw [sb_cl0, nI_clamp (by omega)]; omega) (fun i hi y hy => ?_) (Nat.le_of_ble_eq_true rfl) (Nat.le_of_ble_eq_true rfl) dJ7_copyOf_6403c_35 (fun H1 locs1 hP1 hD1 hS1 => ?_)
  · rw [nI_clamp (by omega)] at hi
    rw [sb_cl0, Nat.zero_add] at hy
    refine EL_any hK ?_
    obtain ⟨ci, fs, hci, hat⟩ := hE i hi y hy
    refine ⟨ci, fs, hci, hat.kept ?_⟩
    by_cases e : y = a
    · subst e
      exact (hP 0 _ rfl : H[y]? = _).trans (ha : s.heap[y]? = _).symm
    · exact hS.2.1 y hat.lt (fun q => q.elim e (fun q => absurd hat.lt (Nat.not_lt.mpr q)))
  refine lv_aload_n hx hb dJ7_copyOf_6403c_38 rfl (lv_at hl 0 rfl) ?_
  refine W.widen (k := 1) (n := k) (Nat.le_refl 1) (Nat.le_of_eq (Nat.zero_add k)) ?_
  rw [nI_clamp (show n < 2 ^ 31 by omega), sb_cl0] at hP1
  have hq : s.heap.size ≤ q := (hD.2 1 _ rfl).resolve_left (fun e => absurd (hD.1 1 0 _ _ rfl rfl e) (by decide))
  exact ret_r () hC trivial (fun t ht => by rw [ht]; exact ⟨hq, hP1 0 _ rfl, hP1 1 _ rfl⟩) hS1 dJ7_copyOf_6403c_39
set_option maxHeartbeats 4000000 in
set_option maxRecDepth 100000 in
/-- Arrays.copyOf of a row of references -/
theorem c_copyOf2 (l : Launch) (D : va_G) (dA : Nat → ClassId) (a n k mi sz : Nat) (f : Nat → Option Nat) (hn : n ≤ k) (hk : k < 2 ^ 27) : Met l yJ7_copyOf_1904c (WSy yJ7_copyOf_1904c cJ7_copyOf_1904c 2 (some (.array (.object "java/lang/Object")))) ({ frames := 2, cells := 1, slots := k, locals := 63 } : Room)
    (va_Pc [.ref a, .int (nI k)] (fun U => U.heap.size = sz ∧ va_at D vwCl (a, .inl (dA 6, n, rfs f)) U.heap ∧ KS D dA U ∧ va_Mi "[Ljava/lang/Object;" mi U ∧ ∀ j, j < n → ∀ y, f j = some y → EL D U.heap y))
    (va_Qr (fun (_ : Unit) => True) (fun _ q t => sz ≤ q ∧ va_at D vwCl (a, .inl (dA 6, n, rfs f)) t.heap ∧ va_at D vwCl (q, .inl (dA 6, k, rfs (va_cpy f (fun _ => none) 0 0 n))) t.heap) (fun q => q = a ∨ sz ≤ q)) 1 k (fun q => q = a ∨ sz ≤ q) := by
  refine met_of (by decide) (Nat.le_of_ble_eq_true rfl) ?_
  intro p e s m below meth c ls hC hB hl
  obtain ⟨rfl, ha, hK, hM, hE⟩ := hB
  have hC : CTX p s m _ meth c cJ7_copyOf_1904c 2 RJ7 (some (.array (.object "java/lang/Object"))) := hC
  obtain ⟨hx, hb, hml, hown, hts, hr, hlk⟩ := id hC
  have hl : lv_has ls 2 [(0, .ref a), (1, .int (nI k))] := hl
  have hS : va_S (fun q => q = a ∨ s.heap.size ≤ q) s.heap s.heap [] := va_S.rf
  refine lv_aload_n hx hb dJ7_copyOf_1904c_0 rfl (lv_at hl 0 rfl) ?_
  refine lv_iload_n hx hb dJ7_copyOf_1904c_1 rfl (lv_at hl 1 rfl) ?_
  refine lv_aload_n hx hb dJ7_copyOf_1904c_2 rfl (lv_at hl 0 rfl) ?_
  have hrec : ∃ cell : Cell, s.heap[a]? = some cell ∧ cell.vm.isStatics = false ∧ s.vm.findClass "[Ljava/lang/Object;" = some cell.cls := by
    obtain ⟨kA, comp, -, -, -, e1⟩ := (hK.1.2 6 (dA 6, .object "java/lang/Object") rfl).2
    exact ⟨_, ha, rfl, e1⟩
  refine va_getC hx hb (hml.trans hl.1.symm) hown (hts _ q_477) (va_Nw.use rfl (hK.2 _ q_789)) (hts _ q_788) (hts _ q_478) (hts _ q_491) hM hrec (Nat.le_of_ble_eq_true rfl) (Nat.le_of_ble_eq_true rfl) dJ7_copyOf_1904c_3 ?_
  refine va_callr (va_runS (As := [.ref a, .int (nI k), .ref mi]) (rest := []) ⟨hx, hb, hml, hown, hts⟩ (c_copyOf3 l D dA a n k mi s.heap.size f hn hk) (va_cwS 3 hts (gS_of (own := RJ7) q_492 q_493 q_53 q_494) rfl rfl rfl (by decide +kernel) ⟨Nat.le_of_ble_eq_true rfl, Nat.le_of_ble_eq_true rfl⟩) ⟨fun a U g mk q => ?_, fun U hU hW => ⟨rfl, by rw [hU], by rw [hU]; exact ha, KS_warm hW hK, va_Mi.moved hW.alike hM, by rw [hU]; exact hE⟩⟩ rfl rfl hl.1 rfl (lv_room (Nat.le_of_ble_eq_true rfl)) dJ7_copyOf_1904c_6 ⟨Nat.le_refl _, Nat.le_of_eq (Nat.zero_add k)⟩) hS (fun q _ h => h) (fun q h => h) (fun u ra t H1 locs1 ht hvm hw hB hz hk1 hS1 => ?_)
  · obtain ⟨q0, q1, q2, q3, q4, q5⟩ := q
    exact ⟨q0, q1, q2, KS_calling q3, va_Mi.moved (u := U) (U := U.calling g mk a) (Vm.Alike.refl U.vm) q4, q5⟩
  refine W.widen (k := 1) (n := k) (Nat.le_refl 1) (Nat.le_of_eq (Nat.zero_add k)) ?_
  rw [ht] at hB
  exact ret_r () hC trivial (fun t ht => by rw [ht]; exact hB) hS1 dJ7_copyOf_1904c_9
/-- what no table can say: which exceptions aren't which -/
abbrev NC (U : State) : Prop := (va_Nc "java/lang/IllegalArgumentException" "java/lang/IndexOutOfBoundsException" U ∧ va_Nc "java/lang/IllegalStateException" "java/lang/IndexOutOfBoundsException" U ∧ va_Nc "java/util/NoSuchElementException" "java/lang/IndexOutOfBoundsException" U) ∧ (va_Nc "java/lang/IllegalStateException" "java/lang/IllegalArgumentException" U ∧ va_Nc "java/util/NoSuchElementException" "java/lang/IllegalArgumentException" U) ∧ va_Nc "java/util/NoSuchElementException" "java/lang/IllegalStateException" U
theorem NC_moved {u U : State} (hvm : u.vm.Alike U.vm) (h : NC u) : NC U := ⟨⟨h.1.1.moved hvm, h.1.2.1.moved hvm, h.1.2.2.moved hvm⟩, ⟨h.2.1.1.moved hvm, h.2.1.2.moved hvm⟩, h.2.2.moved hvm⟩
/-- what a call may read beside its world: the list's shared empty row, a class object, two statics of Throwable -/
def EXT (x mi : Nat) (A : Nat → Prop) (U : State) (H : Heap) : Prop := va_Z "java/util/ArrayList" "DEFAULTCAPACITY_EMPTY_ELEMENTDATA" "[Ljava/lang/Object;" (.ref x) A U H ∧ va_T (.object "java/lang/Object") x 0 (fun _ => .null) A U H ∧ (va_Mi "[Ljava/lang/Object;" mi U ∧ NC U) ∧ vx_Zq Bundle.tN "UNASSIGNED_STACK" Bundle.steD A U H ∧ vx_Zq Bundle.tN "SUPPRESSED_SENTINEL" Bundle.listD A U H
theorem EXT_moved {x mi : Nat} {A : Nat → Prop} {u U : State} {H : Heap} (hvm : u.vm.Alike U.vm) (h : EXT x mi A u H) : EXT x mi A U H := ⟨h.1.moved hvm, h.2.1.moved hvm, ⟨h.2.2.1.1.moved hvm, NC_moved hvm h.2.2.1.2⟩, h.2.2.2.1.moved hvm, h.2.2.2.2.moved hvm⟩
theorem EXT_kept {x mi : Nat} {A : Nat → Prop} {U : State} {H H1 : Heap} (h : EXT x mi A U H) (hq : ∀ a : Nat, a < H.size → ¬ A a → H1[a]? = H[a]?) : EXT x mi A U H1 := ⟨h.1.kept hq, h.2.1.kept hq, h.2.2.1, h.2.2.2.1.kept hq, h.2.2.2.2.kept hq⟩
theorem EXT_narrow {x mi : Nat} {A B : Nat → Prop} {U : State} {H : Heap} (h : EXT x mi A U H) (hAB : ∀ q, B q → A q) : EXT x mi B U H := ⟨h.1.narrow hAB, h.2.1.narrow hAB, h.2.2.1, h.2.2.2.1.narrow hAB, h.2.2.2.2.narrow hAB⟩
theorem EXT_at {x mi : Nat} {A0 B : Nat → Prop} {s U : State} {H : Heap} {locs : List Loc} (h : EXT x mi A0 s s.heap) (hS : va_S A0 s.heap H locs) (hB : ∀ q, B q → A0 q) (hU : U.heap = H) (hW : s.WarmedH U.vm) : EXT x mi B U U.heap := by
  rw [hU]
  exact EXT_narrow (EXT_moved hW.alike (EXT_kept h hS.2.1)) hB
theorem EXT_calling {x mi : Nat} {A : Nat → Prop} {U : State} {g : JFrame} {mk : MethodId} {a : Array Value} (h : EXT x mi A U U.heap) : EXT x mi A (U.calling g mk a) (U.calling g mk a).heap := EXT_moved (u := U) (U := U.calling g mk a) (Vm.Alike.refl U.vm) h
/-- one address more -/
def ad1 (ad : Nat → Nat → Nat) (f0 i0 q : Nat) : Nat → Nat → Nat := fun f j => if f = f0 ∧ j = i0 then q else ad f j
theorem ad1_at (ad : Nat → Nat → Nat) (f0 i0 q : Nat) : ad1 ad f0 i0 q f0 i0 = q := if_pos ⟨rfl, rfl⟩
theorem ad1_ne {ad : Nat → Nat → Nat} {f0 i0 q f j : Nat} (h : ¬ (f = f0 ∧ j = i0)) : ad1 ad f0 i0 q f j = ad f j := if_neg h
section WPU
variable {D : va_G} {cl : List vw_C} {A : Nat → Prop} {ad : Nat → Nat → Nat} {cv cv' : Nat → Nat → Prop} {ct ct' : Nat → Nat → va_E} {H H1 : Heap} {L : List Nat} {fn : Nat → va_E} {q : Nat} {e1 : va_E}
theorem pl_new (hD1 : va_D A (va_pl L fn ++ [(q, e1)])) : q ∉ L := by
  intro h
  obtain ⟨k, hk⟩ := pl_at (fn := fn) h
  have hkl : k < (va_pl L fn).length := (List.getElem?_eq_some_iff.mp hk).1
  have h1 : (va_pl L fn ++ [(q, e1)])[k]? = some (q, fn q) := by rw [List.getElem?_append_left hkl]; exact hk
  have h2 : (va_pl L fn ++ [(q, e1)])[(va_pl L fn).length]? = some (q, e1) := by simp
  have := hD1.1 k _ _ _ h1 h2 rfl
  omega
theorem pl_lastA (hD1 : va_D A (va_pl L fn ++ [(q, e1)])) : A q := hD1.2 (va_pl L fn).length (q, e1) (by simp)
theorem WW_push (hc : ∀ f i, cv f i → ad f i ∈ L ∧ fn (ad f i) = ct f i) (hi : ∀ f i g j, cv f i → cv g j → ad f i = ad g j → f = g ∧ i = j) (hP1 : va_P D cl (va_pl L fn ++ [(q, e1)]) H1) (hD1 : va_D A (va_pl L fn ++ [(q, e1)])) {f0 i0 : Nat} (hn : ¬ cv f0 i0) (hcv : ∀ f j, cv' f j → (f = f0 ∧ j = i0) ∨ cv f j) (hct : ∀ f j, cv f j → ct' f j = ct f j) (he : ct' f0 i0 = e1) : WW D cl A (ad1 ad f0 i0 q) cv' ct' H1 := by
  have hq := pl_new hD1
  rw [va_pl_push hq] at hP1 hD1
  have hne : ∀ f j, cv f j → ¬ (f = f0 ∧ j = i0) := fun f j h e => hn (by obtain ⟨rfl, rfl⟩ := e; exact h)
  refine ⟨⟨L ++ [q], va_up fn q e1, hP1, hD1, fun f j hv => ?_⟩, fun f i g j h1 h2 e => ?_⟩
  · rcases hcv f j hv with ⟨rfl, rfl⟩ | h
    · rw [ad1_at, he]
      exact ⟨by simp, by simp [va_up]⟩
    · rw [ad1_ne (hne f j h), hct f j h]
      have hx := hc f j h
      refine ⟨List.mem_append_left _ hx.1, ?_⟩
      have : ad f j ≠ q := fun e => hq (e ▸ hx.1)
      simp only [va_up, if_neg this]
      exact hx.2
  · rcases hcv f i h1 with ⟨rfl, rfl⟩ | a1 <;> rcases hcv g j h2 with ⟨rfl, rfl⟩ | a2
    · exact ⟨rfl, rfl⟩
    · rw [ad1_at, ad1_ne (hne g j a2)] at e
      exact absurd (e ▸ (hc g j a2).1) hq
    · rw [ad1_at, ad1_ne (hne f i a1)] at e
      exact absurd (e ▸ (hc f i a1).1) hq
    · rw [ad1_ne (hne f i a1), ad1_ne (hne g j a2)] at e
      exact hi f i g j a1 a2 e
end WPU
section WNR
variable {p : Program} {l : Launch} {e : Env} {R : Room} {s : State} {m : MethodId} {args : Array Value} {below : List Frame} {meth : Method} {c : Code} {H : Heap} {locs : List Loc} {cells slots : Nat} {Q : State → Prop}
variable {cc : ByteArray} {pc : Nat} {ls : Array Slot} {rest : List Value} {D : va_G} {dA : Nat → ClassId} {A : Nat → Prop} {ad : Nat → Nat → Nat} {cv cv' : Nat → Nat → Prop} {ct : Nat → Nat → va_E} {ct' : Nat → Nat → Nat → va_E} {H0 : Heap} {f0 i0 : Nat}
theorem ww_newq (hexec : p.tables.exec = Jvm.exec) (hb : c.code = cc) {own : String} {index : Nat} (hown : s.vm.findClass own = some m.cls) (hclink : (Cond.classLink own index "java/lang/Object").before args s = true) (hover : va_AO "java/lang/Object" s) (hK : va_K D vwCl (TYs dA) s) (hR : WW D vwCl A ad cv ct H) (hS : va_S A H0 H locs) (hA : ∀ q, H0.size ≤ q → A q)
    {n : Int32} {N' : Nat} (hn : ¬ n < 0) (hN : n.toNatClampNeg = N') (hbytes : N' * 4 ≤ 536870912) (hcells : cells + 1 ≤ R.cells) (hslots : slots + N' ≤ R.slots) (hnv : ¬ cv f0 i0) (hcv : ∀ f j, cv' f j → (f = f0 ∧ j = i0) ∨ cv f j) (hct : ∀ q f j, cv f j → ct' q f j = ct f j) (he : ∀ q, ct' q f0 i0 = .inl (dA 6, N', rfs (fun _ => none))) (hdg : decode cc pc = .ok (.anewarray index, 3))
    (kk : ∀ (q : Nat) (H1 : Heap), A q → (∀ f j, cv f j → ad f j ≠ q) → WW D vwCl A (ad1 ad f0 i0 q) cv' (ct' q) H1 → va_S A H0 H1 locs →
      W p l e R s m args below meth c H1 locs (cells + 1) (slots + N') Q (F0 m (pc + 3) ls (.ref q :: rest))) : W p l e R s m args below meth c H locs cells slots Q (F0 m pc ls (.int n :: rest)) := by
  obtain ⟨⟨L, fn, hP, hD, hc⟩, hi⟩ := hR
  refine va_newq hexec hb hown hclink hover hK hP hD hS hA hn hN hbytes hcells hslots hdg (fun q cA H1 hK1 hP1 hD1 hS1 => ?_)
  have hcA := dA6 hK1
  subst hcA
  have hq := pl_new hD1
  refine kk q H1 (pl_lastA hD1) (fun f j h e => hq (e ▸ (hc f j h).1)) (WW_push hc hi hP1 hD1 hnv hcv (hct q) (he q)) hS1
theorem ww_newi (hexec : p.tables.exec = Jvm.exec) (hb : c.code = cc) (harr : (Cond.arrayClass .int).before args s = true) (hK : va_K D vwCl (TYs dA) s) (hR : WW D vwCl A ad cv ct H) (hS : va_S A H0 H locs) (hA : ∀ q, H0.size ≤ q → A q)
    {n : Int32} {N' : Nat} (hn : ¬ n < 0) (hN : n.toNatClampNeg = N') (hbytes : N' * 4 ≤ 536870912) (hcells : cells + 1 ≤ R.cells) (hslots : slots + N' ≤ R.slots) (hnv : ¬ cv f0 i0) (hcv : ∀ f j, cv' f j → (f = f0 ∧ j = i0) ∨ cv f j) (hct : ∀ q f j, cv f j → ct' q f j = ct f j) (he : ∀ q, ct' q f0 i0 = .inl (dA 0, N', .inl (fun _ => 0))) (hdg : decode cc pc = .ok (.newarray .int, 2))
    (kk : ∀ (q : Nat) (H1 : Heap), A q → (∀ f j, cv f j → ad f j ≠ q) → WW D vwCl A (ad1 ad f0 i0 q) cv' (ct' q) H1 → va_S A H0 H1 locs →
      W p l e R s m args below meth c H1 locs (cells + 1) (slots + N') Q (F0 m (pc + 2) ls (.ref q :: rest))) : W p l e R s m args below meth c H locs cells slots Q (F0 m pc ls (.int n :: rest)) := by
  obtain ⟨⟨L, fn, hP, hD, hc⟩, hi⟩ := hR
  refine va_newa (a0 := (N', .inl (fun _ => 0))) (atype := .int) (ty := .int) hexec hb harr rfl hK hP hD hS hA (fun cA => rfl) hn hN hbytes hcells hslots hdg (fun q cA H1 hK1 hP1 hD1 hS1 => ?_)
  have hcA := dA0 hK1
  subst hcA
  have hq := pl_new hD1
  refine kk q H1 (pl_lastA hD1) (fun f j h e => hq (e ▸ (hc f j h).1)) (WW_push hc hi hP1 hD1 hnv hcv (hct q) (he q)) hS1
theorem ww_new (hexec : p.tables.exec = Jvm.exec) (hb : c.code = cc) {own C : String} {T : u_T} {N ci index : Nat} {Ts : List Cond} (hts : ∀ w ∈ Ts, w.before args s = true) (hin : ∀ w ∈ u_ws C T N, w ∈ Ts) (ty : Nat → FieldType) (hty : ∀ k, k < N → parseFieldDescriptor (T k).2.2.1 = some (ty k)) (hown : s.vm.findClass own = some m.cls) (hcl : (Cond.classLink own index C).before args s = true) (hinst : (Cond.instantiable C N).before args s = true) (hini : (Cond.initialized C).before args s = true)
    (hK : va_K D vwCl (TYs dA) s) (hR : WW D vwCl A ad cv ct H) (hS : va_S A H0 H locs) (hA : ∀ q, H0.size ≤ q → A q) (hci : vwCl[ci]? = some (C, T, N)) {fs : List Value} (hfs : ∀ j, j < N → defaultValue (ty j) = vp_V fs j) (hcells : cells + 1 ≤ R.cells) (hslots : slots + N ≤ R.slots) (hnv : ¬ cv f0 i0) (hcv : ∀ f j, cv' f j → (f = f0 ∧ j = i0) ∨ cv f j) (hct : ∀ q f j, cv f j → ct' q f j = ct f j) (he : ∀ q, ct' q f0 i0 = .inr (ci, fs)) (hdg : decode cc pc = .ok (.new index, 3))
    (kk : ∀ (q : Nat) (H1 : Heap), A q → (∀ f j, cv f j → ad f j ≠ q) → WW D vwCl A (ad1 ad f0 i0 q) cv' (ct' q) H1 → va_S A H0 H1 locs →
      W p l e R s m args below meth c H1 locs (cells + 1) (slots + N) Q (F0 m (pc + 3) ls (.ref q :: rest))) : W p l e R s m args below meth c H locs cells slots Q (F0 m pc ls rest) := by
  obtain ⟨⟨L, fn, hP, hD, hc⟩, hi⟩ := hR
  refine va_new hexec hb hts hin ty hty hown hcl hinst hini hK hP hD hS hA hci hfs hcells hslots hdg (fun q H1 hP1 hD1 hS1 => ?_)
  have hq := pl_new hD1
  refine kk q H1 (pl_lastA hD1) (fun f j h e => hq (e ▸ (hc f j h).1)) (WW_push hc hi hP1 hD1 hnv hcv (hct q) (he q)) hS1
end WNR
/-- the places of a list's row when it is full -/
def gcap (c : Nat) : Nat := if c = 0 then 10 else c + (if 1 < c / 2 then c / 2 else 1)
theorem gcap_0 : gcap 0 = 10 := rfl
theorem gcap_le (c : Nat) : c ≤ gcap c := by unfold gcap; split <;> omega
theorem gcap_up (c : Nat) : gcap c ≤ 2 * c + 10 := by unfold gcap; split <;> (try split) <;> omega
theorem newLen_eq {τ : St} {c : Nat} (h0 : c ≠ 0) (hc : c ≤ 1000000) : fJ8_newLength_cabcc τ (nI c) (nI (c + 1) - nI c) (nI c >>> ((1 : Int32) &&& 31)) = some (nI (gcap c)) := by
  have e1 : nI (c + 1) - nI c = nI 1 := by
    have k := pk_sub (a := c + 1) (b := c) (by omega)
    rw [Nat.add_sub_cancel_left] at k
    exact k
  have e2 : nI c >>> ((1 : Int32) &&& 31) = nI (c / 2) := by
    have k := pk_shrN (n := c) (by omega) ((1 : Int32) &&& 31) 1 (by decide)
    rw [Nat.pow_one] at k
    exact k
  have e3 : (if nI 1 < nI (c / 2) then nI (c / 2) else nI 1) = nI (if 1 < c / 2 then c / 2 else 1) := by
    by_cases q : 1 < c / 2
    · rw [if_pos (nI_lt q (by omega)), if_pos q]
    · rw [if_neg (nI_nlt (by omega) (by decide)), if_neg q]
  have e4 : gcap c = c + (if 1 < c / 2 then c / 2 else 1) := by unfold gcap; rw [if_neg h0]
  have e5 : gcap c ≤ 2 * c + 10 := gcap_up c
  have e6 : c ≤ gcap c := gcap_le c
  unfold fJ8_newLength_cabcc
  rw [e1, e2, e3, nI_add, ← e4]
  unfold kst
  dsimp only
  rw [if_neg (nI_nle (by omega) (by omega)), if_neg (show ¬ (2147483639 : Int32) < nI (gcap c) from nI_nlt (a := 2147483639) (b := gcap c) (by omega) (by decide))]
abbrev GA : FieldType := .array (.object "java/lang/Object")
/-- a list's elements: objects of their kinds, not cells of the list -/
def ELS (D : va_G) (ad : Nat → Nat → Nat) (σ : St) (H : Heap) : Prop := ∀ j, j < gN σ 0 → EL D H (ad 2 j) ∧ ∀ f i, cvA σ f i → ad 2 j ≠ ad f i
theorem WW_two {D : va_G} {cl : List vw_C} {A : Nat → Prop} {a q : Nat} {e1 e2 : va_E} {H : Heap} (h1 : va_at D cl (a, e1) H) (h2 : va_at D cl (q, e2) H) (hne : a ≠ q) (ha : A a) (hq : A q) : WW D cl A (fun f _ => if f = 0 then a else q) (fun f i => (f = 0 ∨ f = 1) ∧ i = 0) (fun f _ => if f = 0 then e1 else e2) H := by
  refine ⟨⟨[a, q], fun z => if z = a then e1 else e2, pl_P fun z hz => ?_, pl_D (by simp [hne]) fun z hz => ?_, fun f i hv => ?_⟩, fun f i g j q1 q2 e => ?_⟩
  · rcases List.mem_cons.mp hz with rfl | hz
    · rw [if_pos rfl]; exact h1
    · have := List.mem_singleton.mp hz
      subst this
      rw [if_neg (Ne.symm hne)]
      exact h2
  · rcases List.mem_cons.mp hz with rfl | hz
    · exact ha
    · have := List.mem_singleton.mp hz
      subst this
      exact hq
  · obtain ⟨rfl | rfl, rfl⟩ := hv
    · simp
    · simp [Ne.symm hne]
  · obtain ⟨rfl | rfl, rfl⟩ := q1 <;> obtain ⟨rfl | rfl, rfl⟩ := q2 <;> simp_all
set_option maxHeartbeats 4000000 in
set_option maxRecDepth 100000 in
/-- a full list's row, made larger -/
theorem c_growI (l : Launch) (D : va_G) (dA : Nat → ClassId) (ad : Nat → Nat → Nat) (σ : St) (x mi sz : Nat) (hn : gN σ 0 = gN σ 1) (hc : gN σ 1 ≤ 1000000) : Met l yJx4a65c_grow_92f84 (WSy yJx4a65c_grow_92f84 cJx4a65c_grow_92f84 4 (some GA)) ({ frames := 3, cells := 1, slots := gcap (gN σ 1), locals := 90 } : Room)
    (va_Pc [.ref (ad 0 0), .int (nI (gN σ 1 + 1))] (fun U => U.heap.size = sz ∧ HA D dA (fun _ => True) ad σ U.heap ∧ KS D dA U ∧ EXT x mi (WA ad (cvA σ) sz) U U.heap ∧ (gN σ 1 = 0 → ad 1 0 = x) ∧ ELS D ad σ U.heap))
    (va_Qr (fun (_ : Unit) => True) (fun _ q t => sz ≤ q ∧ HA D dA (WA ad (cvA σ) sz) (ad1 ad 1 0 q) (pN σ 1 (gcap (gN σ 1))) t.heap) (WA ad (cvA σ) sz)) 1 (gcap (gN σ 1)) (WA ad (cvA σ) sz) := by
  refine met_of (by decide) (Nat.le_of_ble_eq_true rfl) ?_
  intro p e s m below meth c ls hC hB hl
  obtain ⟨rfl, hR, hK, hX, hx0, hE⟩ := hB
  have hA : ∀ q : Nat, s.heap.size ≤ q → WA ad (cvA σ) s.heap.size q := fun q h => Or.inr h
  have hR := WW_fit (B := WA ad (cvA σ) s.heap.size) hR (fun f i h => WA_in h)
  have hS : va_S (WA ad (cvA σ) s.heap.size) s.heap s.heap [] := va_S.rf
  have hC : CTX p s m _ meth c cJx4a65c_grow_92f84 4 RJx4a65c (some GA) := hC
  obtain ⟨hx, hb, hml, hown, hts, hr, hlk⟩ := id hC
  have hl : lv_has ls 4 [(0, .ref (ad 0 0)), (1, .int (nI (gN σ 1 + 1)))] := hl
  have hwo : ∀ q, WA ad (cvA σ) s.heap.size q → (∀ f j, cvA σ f j → ad f j ≠ q) → s.heap.size ≤ q := by
    rintro q (⟨f, i, hv, rfl⟩ | h) hne
    · exact absurd rfl (hne f i hv)
    · exact h
  refine lv_aload_n hx hb dJx4a65c_grow_92f84_0 rfl (lv_at hl 0 rfl) ?_
  refine va_get (D := D) (ci := 0) (C := RJx4a65c) (T := TJx4a65c) (N := 3) hx hb hts iuJx4a65c hown hK.1 (WW_one hR (f := 0) (i := 0) rfl) 0 rfl rfl 1 (by decide) (hts _ q_85) (fun _ h9 => h9) rfl dJx4a65c_grow_92f84_1 ?_
  by_cases h0 : gN σ 1 = 0
  · have hx0 := hx0 h0
    refine W.eq (g2 := F0 m 4 ls [.ref x]) (by rw [hx0]) ?_
    refine va_tlen (v := 0) hx hb hX.2.1 hS (by decide) dJx4a65c_grow_92f84_4 ?_
    refine lv_istore_n (lv' := [(2, .int 0), (0, .ref (ad 0 0)), (1, .int (nI (gN σ 1 + 1)))]) hx hb dJx4a65c_grow_92f84_5 rfl hl (by decide) rfl (fun ls hl => ?_)
    refine lv_iload_n hx hb dJx4a65c_grow_92f84_6 rfl (lv_at hl 0 rfl) ?_
    refine lv_if_gt (tgt := 20) hx hb dJx4a65c_grow_92f84_7 (by decide) (fun c => absurd c (by decide)) (fun _ => ?_)
    refine lv_aload_n hx hb dJx4a65c_grow_92f84_10 rfl (lv_at hl 1 rfl) ?_
    refine va_get (D := D) (ci := 0) (C := RJx4a65c) (T := TJx4a65c) (N := 3) hx hb hts iuJx4a65c hown hK.1 (WW_one hR (f := 0) (i := 0) rfl) 0 rfl rfl 1 (by decide) (hts _ q_85) (fun _ h9 => h9) rfl dJx4a65c_grow_92f84_11 ?_
    refine va_gets hx hb hX.1 hS hown (hts _ q_83) (fun _ h => h) dJx4a65c_grow_92f84_14 ?_
    refine lv_acmp_eq (rx := some (ad 1 0)) (ry := some x) (tgt := 45) hx hb dJx4a65c_grow_92f84_17 (by decide) (fun _ => ?_) (fun c => absurd (by rw [hx0]) c)
    refine lv_aload_n hx hb dJx4a65c_grow_92f84_45 rfl (lv_at hl 1 rfl) ?_
    refine lv_bipush (v := 10) hx hb dJx4a65c_grow_92f84_46 (by decide) ?_
    refine lv_iload_n hx hb dJx4a65c_grow_92f84_48 rfl (lv_at hl 2 rfl) ?_
    refine va_mmax hx hb (hml.trans hl.1.symm) hown (hts _ q_502) (hts _ q_338) (hts _ q_48) (hts _ q_339) (Nat.le_of_ble_eq_true rfl) (Nat.le_of_ble_eq_true rfl) (Nat.zero_le _) (Nat.zero_le _) dJx4a65c_grow_92f84_49 ?_
    rw [show (if (10 : Int32) < nI (gN σ 1 + 1) then nI (gN σ 1 + 1) else 10) = nI 10 by rw [h0]; decide]
    refine ww_newq (f0 := 3) (i0 := 0) (cv' := fun f j => (f = 3 ∧ j = 0) ∨ cvA σ f j) (ct' := fun q f j => if f = 3 then .inl (dA 6, 10, rfs (fun _ => none)) else ctA dA ad σ f j) hx hb hown (hts _ q_503) (hK.2 _ q_496) hK.1 hR hS hA (by decide) (show (nI 10).toNatClampNeg = 10 from nI_clamp (by decide)) (by decide) (by exact Nat.le_refl 1) (by show 0 + 10 ≤ gcap (gN σ 1); rw [h0]; exact Nat.le_refl _) (by simp [cvA]) (fun f j h => h) (fun q f j h => if_neg (fun e => by subst e; simp [cvA] at h)) (fun q => if_pos rfl) dJx4a65c_grow_92f84_52 (fun q H hAq hne hR hS => ?_)
    refine lv_dup_x1 hx hb dJx4a65c_grow_92f84_55 rfl rfl ?_
    have e00 : ad1 ad 3 0 q 0 0 = ad 0 0 := ad1_ne (by decide)
    rw [← e00]
    refine ww_put (D := D) (ci := 0) (C := RJx4a65c) (T := TJx4a65c) (N := 3) (ty := .array (.object "java/lang/Object")) hx hb hts iuJx4a65c tyJx4a65c tyJx4a65c_ok nmJx4a65c hown hK.1 hR hS (f := 0) (i := 0) (Or.inr rfl) rfl rfl 1 (by decide) (hts _ q_85) (fun _ h9 => h9) rfl (by decide +kernel) rfl rfl (Nat.le_of_ble_eq_true rfl) dJx4a65c_grow_92f84_56 (fun H locs hR hS => ?_)
    refine W.widen (k := 1) (n := gcap (gN σ 1)) (Nat.le_refl 1) (by rw [h0]; exact Nat.le_refl _) ?_
    have hF : HA D dA (WA ad (cvA σ) s.heap.size) (ad1 ad 1 0 q) (pN σ 1 (gcap (gN σ 1))) H := by
      refine WW_sub hR (fun f i hv => ?_) (fun f i g j q1 q2 e => ?_)
      · match f, hv with
        | 0, hv =>
          have hi : i = 0 := hv
          subst hi
          refine ⟨0, 0, Or.inr rfl, by rw [ad1_ne (by decide), ad1_ne (by decide)], ?_⟩
          simp [ctA, ad1_at, gI_pN, gN_pN]
        | 1, hv =>
          have hi : i = 0 := hv.1
          subst hi
          refine ⟨3, 0, Or.inl ⟨rfl, rfl⟩, by rw [ad1_at, ad1_at], ?_⟩
          simp [ctA, gN_pN, h0, gcap_0, hn]
        | f + 2, hv => exact absurd hv (by simp [cvA])
      · match f, g, q1, q2, e with
        | 0, 0, q1, q2, e => exact ⟨rfl, q1.trans q2.symm⟩
        | 1, 1, q1, q2, e => exact ⟨rfl, q1.1.trans q2.1.symm⟩
        | 0, 1, q1, q2, e =>
          have a1 : i = 0 := q1
          have a2 : j = 0 := q2.1
          subst a1 a2
          rw [ad1_ne (by decide), ad1_at] at e
          exact absurd e (hne 0 0 rfl)
        | 1, 0, q1, q2, e =>
          have a1 : i = 0 := q1.1
          have a2 : j = 0 := q2
          subst a1 a2
          rw [ad1_at, ad1_ne (by decide)] at e
          exact absurd e.symm (hne 0 0 rfl)
        | f + 2, g, q1, q2, e => exact absurd q1 (by simp [cvA])
        | 0, g + 2, q1, q2, e => exact absurd q2 (by simp [cvA])
        | 1, g + 2, q1, q2, e => exact absurd q2 (by simp [cvA])
    exact ret_r () hC trivial (fun t ht => by rw [ht]; exact ⟨hwo q hAq hne, hF⟩) hS dJx4a65c_grow_92f84_59
  · have hpos : 0 < gN σ 1 := by omega
    have hne10 : ad 0 0 ≠ ad 1 0 := fun e => absurd (hR.2 0 0 1 0 rfl ⟨rfl, hpos⟩ e).1 (by decide)
    refine va_alen (v := nI (gN σ 1)) (ty := .object "java/lang/Object") hx hb hK.1 (WW_one hR (f := 1) (i := 0) ⟨rfl, hpos⟩) 0 6 rfl rfl rfl dJx4a65c_grow_92f84_4 ?_
    refine lv_istore_n (lv' := [(2, .int (nI (gN σ 1))), (0, .ref (ad 0 0)), (1, .int (nI (gN σ 1 + 1)))]) hx hb dJx4a65c_grow_92f84_5 rfl hl (by decide) rfl (fun ls hl => ?_)
    refine lv_iload_n hx hb dJx4a65c_grow_92f84_6 rfl (lv_at hl 0 rfl) ?_
    refine lv_if_gt (tgt := 20) hx hb dJx4a65c_grow_92f84_7 (by decide) (fun _ => ?_) (fun c => absurd (show (0 : Int32) < nI (gN σ 1) from nI_lt (a := 0) hpos (by omega)) c)
    refine lv_iload_n hx hb dJx4a65c_grow_92f84_20 rfl (lv_at hl 0 rfl) ?_
    refine lv_iload_n hx hb dJx4a65c_grow_92f84_21 rfl (lv_at hl 2 rfl) ?_
    refine lv_iload_n hx hb dJx4a65c_grow_92f84_22 rfl (lv_at hl 0 rfl) ?_
    refine lv_isub hx hb dJx4a65c_grow_92f84_23 ?_
    refine lv_iload_n hx hb dJx4a65c_grow_92f84_24 rfl (lv_at hl 0 rfl) ?_
    refine lv_iconst (v := 1) hx hb dJx4a65c_grow_92f84_25 (by decide) ?_
    refine lv_ishr hx hb dJx4a65c_grow_92f84_26 ?_
    refine kc_i (va_runS (As := [.int (nI (gN σ 1)), .int (nI (gN σ 1 + 1) - nI (gN σ 1)), .int (nI (gN σ 1) >>> ((1 : Int32) &&& 31))]) (rest := []) ⟨hx, hb, hml, hown, hts⟩ (mJ8_newLength_cabcc l D dA ad σ _ _ _ _ _ (newLen_eq h0 hc)) (va_cwS 3 hts (gS_of (own := RJx4a65c) q_466 q_467 q_52 q_468) rfl rfl rfl (by decide +kernel) ⟨Nat.le_of_ble_eq_true rfl, Nat.le_of_ble_eq_true rfl⟩) (preS_of hR hK _) rfl rfl hl.1 rfl (lv_room (Nat.le_of_ble_eq_true rfl)) dJx4a65c_grow_92f84_27 ⟨Nat.zero_le _, Nat.zero_le _⟩) hA hR hS (fun H locs hR hS => ?_)
    refine lv_istore_n (lv' := [(3, .int (nI (gcap (gN σ 1)))), (2, .int (nI (gN σ 1))), (0, .ref (ad 0 0)), (1, .int (nI (gN σ 1 + 1)))]) hx hb dJx4a65c_grow_92f84_30 rfl hl (by decide) rfl (fun ls hl => ?_)
    refine lv_aload_n hx hb dJx4a65c_grow_92f84_31 rfl (lv_at hl 2 rfl) ?_
    refine lv_aload_n hx hb dJx4a65c_grow_92f84_32 rfl (lv_at hl 2 rfl) ?_
    refine va_get (D := D) (ci := 0) (C := RJx4a65c) (T := TJx4a65c) (N := 3) hx hb hts iuJx4a65c hown hK.1 (WW_one hR (f := 0) (i := 0) rfl) 0 rfl rfl 1 (by decide) (hts _ q_85) (fun _ h9 => h9) rfl dJx4a65c_grow_92f84_33 ?_
    refine lv_iload_n hx hb dJx4a65c_grow_92f84_36 rfl (lv_at hl 0 rfl) ?_
    have hcle := gcap_le (gN σ 1)
    have hcup := gcap_up (gN σ 1)
    have hsz : s.heap.size ≤ H.size := hS.1
    have hE1 : ∀ j, j < gN σ 1 → ∀ y, (if j < gN σ 0 then some (ad 2 j) else none) = some y → EL D H y := by
      intro j hj y hy
      rw [if_pos (by omega)] at hy
      cases hy
      obtain ⟨⟨ci, fs, hci, hat⟩, hny⟩ := hE j (by omega)
      refine ⟨ci, fs, hci, hat.kept (hS.2.1 _ hat.lt ?_)⟩
      rintro (⟨f, i, hv, e⟩ | q)
      · exact hny f i hv e
      · exact absurd hat.lt (Nat.not_lt.mpr q)
    have hat1 := WW_at hR (f := 1) (i := 0) ⟨rfl, hpos⟩
    refine va_callr (va_runS (As := [.ref (ad 1 0), .int (nI (gcap (gN σ 1)))]) (rest := [.ref (ad 0 0)]) ⟨hx, hb, hml, hown, hts⟩ (c_copyOf2 l D dA (ad 1 0) (gN σ 1) (gcap (gN σ 1)) mi H.size (fun j => if j < gN σ 0 then some (ad 2 j) else none) hcle (by omega)) (va_cwS 2 hts (gS_of (own := RJx4a65c) q_474 q_475 q_53 q_476) rfl rfl rfl (by decide +kernel) ⟨Nat.le_of_ble_eq_true rfl, Nat.le_of_ble_eq_true rfl⟩) ⟨fun a U g mk q => ?_, fun U hU hW => ⟨rfl, by rw [hU], by rw [hU]; exact hat1, KS_warm hW hK, va_Mi.moved hW.alike hX.2.2.1.1, by rw [hU]; exact hE1⟩⟩ rfl rfl hl.1 rfl (lv_room (Nat.le_of_ble_eq_true rfl)) dJx4a65c_grow_92f84_37 ⟨Nat.le_refl _, Nat.le_of_eq (Nat.zero_add _)⟩) hS (fun q _ h => h.elim (fun e => by rw [e]; exact WA_in (f := 1) (i := 0) ⟨rfl, hpos⟩) (fun h => hA q (Nat.le_trans hsz h))) (fun q h => h.elim (fun e => by rw [e]; exact WA_in (f := 1) (i := 0) ⟨rfl, hpos⟩) (fun h => hA q (Nat.le_trans hsz h))) (fun u ra t H1 locs1 ht hvm hw hB hz hk1 hS1 => ?_)
    · obtain ⟨q0, q1, q2, q3, q4, q5⟩ := q
      exact ⟨q0, q1, q2, KS_calling q3, va_Mi.moved (u := U) (U := U.calling g mk a) (Vm.Alike.refl U.vm) q4, q5⟩
    rw [ht] at hB
    obtain ⟨hra, hB1, hB2⟩ := hB
    have hlt0 : ad 0 0 < H.size := WW_lt hR (f := 0) (i := 0) rfl
    have hlt1 : ad 1 0 < H.size := WW_lt hR (f := 1) (i := 0) ⟨rfl, hpos⟩
    have hne : ∀ f j, cvA σ f j → ad f j ≠ ra := fun f j hv e => absurd (WW_lt hR hv) (by rw [e]; omega)
    have hT := WW_two (A := fun q => q = ad 1 0 ∨ H.size ≤ q) hB1 hB2 (fun e => by omega) (Or.inl rfl) (Or.inr hra)
    have hR : WW D vwCl (WA ad (cvA σ) s.heap.size) (ad1 ad 3 0 ra) (fun f j => (f = 3 ∧ j = 0) ∨ cvA σ f j) (fun f j => if f = 3 then .inl (dA 6, gcap (gN σ 1), rfs (va_cpy (fun j => if j < gN σ 0 then some (ad 2 j) else none) (fun _ => none) 0 0 (gN σ 1))) else ctA dA ad σ f j) H1 := by
      refine WW_merge hR (fun q h => h.elim (fun e => by rw [e]; exact WA_in (f := 1) (i := 0) ⟨rfl, hpos⟩) (fun h => hA q (Nat.le_trans hsz h))) hT hk1 (fun g j hv => ?_) (fun f i g j q1 q2 e => ?_)
      · rcases hv with ⟨rfl, rfl⟩ | hv
        · exact Or.inr ⟨1, 0, ⟨Or.inr rfl, rfl⟩, by rw [ad1_at]; simp, by simp⟩
        · match g, hv with
          | 0, hv =>
            have hj : j = 0 := hv
            subst hj
            refine Or.inl ⟨rfl, ad1_ne (by decide), if_neg (by decide), fun h => ?_⟩
            rcases h with h | h
            · exact hne10 h
            · omega
          | 1, hv =>
            have hj : j = 0 := hv.1
            subst hj
            exact Or.inr ⟨0, 0, ⟨Or.inl rfl, rfl⟩, by rw [ad1_ne (by decide)]; simp, by simp [ctA]⟩
          | g + 2, hv => exact absurd hv (by simp [cvA])
      · have hc3 : ∀ f i, cvA σ f i → ¬ (f = 3 ∧ i = 0) := fun f i h e => by obtain ⟨rfl, rfl⟩ := e; simp [cvA] at h
        rcases q1 with ⟨rfl, rfl⟩ | q1 <;> rcases q2 with ⟨rfl, rfl⟩ | q2
        · exact ⟨rfl, rfl⟩
        · rw [ad1_at, ad1_ne (hc3 _ _ q2)] at e
          exact absurd e.symm (hne _ _ q2)
        · rw [ad1_at, ad1_ne (hc3 _ _ q1)] at e
          exact absurd e (hne _ _ q1)
        · rw [ad1_ne (hc3 _ _ q1), ad1_ne (hc3 _ _ q2)] at e
          exact hR.2 f i g j q1 q2 e
    have hS := hS1
    generalize H1 = H2 at hR hS ⊢
    refine lv_dup_x1 hx hb dJx4a65c_grow_92f84_40 rfl rfl ?_
    have e00 : ad1 ad 3 0 ra 0 0 = ad 0 0 := ad1_ne (by decide)
    rw [← e00]
    refine ww_put (D := D) (ci := 0) (C := RJx4a65c) (T := TJx4a65c) (N := 3) (ty := .array (.object "java/lang/Object")) hx hb hts iuJx4a65c tyJx4a65c tyJx4a65c_ok nmJx4a65c hown hK.1 hR hS (f := 0) (i := 0) (Or.inr rfl) rfl rfl 1 (by decide) (hts _ q_85) (fun _ h9 => h9) rfl (by decide +kernel) rfl rfl (Nat.le_of_ble_eq_true rfl) dJx4a65c_grow_92f84_41 (fun H locs hR hS => ?_)
    refine W.widen (k := 1) (n := gcap (gN σ 1)) (Nat.le_refl 1) (Nat.le_of_eq (Nat.zero_add _)) ?_
    have hF : HA D dA (WA ad (cvA σ) s.heap.size) (ad1 ad 1 0 ra) (pN σ 1 (gcap (gN σ 1))) H := by
      refine WW_sub hR (fun f i hv => ?_) (fun f i g j q1 q2 e => ?_)
      · match f, hv with
        | 0, hv =>
          have hi : i = 0 := hv
          subst hi
          refine ⟨0, 0, Or.inr rfl, by rw [ad1_ne (by decide), ad1_ne (by decide)], ?_⟩
          simp [ctA, ad1_at, gI_pN, gN_pN]
        | 1, hv =>
          have hi : i = 0 := hv.1
          subst hi
          refine ⟨3, 0, Or.inl ⟨rfl, rfl⟩, by rw [ad1_at, ad1_at], ?_⟩
          have ef : (fun j => if j < gN σ 0 then some (ad1 ad 1 0 ra 2 j) else none) = va_cpy (fun j => if j < gN σ 0 then some (ad 2 j) else none) (fun _ => none) 0 0 (gN σ 1) := by
            funext j
            have e2 : ad1 ad 1 0 ra 2 j = ad 2 j := ad1_ne (fun q => absurd q.1 (by decide))
            simp only [va_cpy, e2]
            by_cases hj : j < gN σ 1
            · rw [if_pos (by omega), if_pos (by omega), if_pos (by omega)]
              simp
            · rw [if_neg (by omega), if_neg (by omega)]
          simp [ctA, gN_pN, ef]
        | f + 2, hv => exact absurd hv (by simp [cvA])
      · match f, g, q1, q2, e with
        | 0, 0, q1, q2, e => exact ⟨rfl, q1.trans q2.symm⟩
        | 1, 1, q1, q2, e => exact ⟨rfl, q1.1.trans q2.1.symm⟩
        | 0, 1, q1, q2, e =>
          have a1 : i = 0 := q1
          have a2 : j = 0 := q2.1
          subst a1 a2
          rw [ad1_ne (by decide), ad1_at] at e
          exact absurd e (hne 0 0 rfl)
        | 1, 0, q1, q2, e =>
          have a1 : i = 0 := q1.1
          have a2 : j = 0 := q2
          subst a1 a2
          rw [ad1_at, ad1_ne (by decide)] at e
          exact absurd e.symm (hne 0 0 rfl)
        | f + 2, g, q1, q2, e => exact absurd q1 (by simp [cvA])
        | 0, g + 2, q1, q2, e => exact absurd q2 (by simp [cvA])
        | 1, g + 2, q1, q2, e => exact absurd q2 (by simp [cvA])
    exact ret_r () hC trivial (fun t ht => by rw [ht]; exact ⟨Nat.le_trans hsz hra, hF⟩) hS dJx4a65c_grow_92f84_44

