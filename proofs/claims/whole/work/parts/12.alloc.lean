/-! NEW CELLS: the JDK's rows of a list that grows (by hand) -/
theorem one_D {A : Nat → Prop} {q : Nat × va_E} (h : A q.1) : va_D A [q] := by
  refine ⟨fun i j x y h1 h2 _ => ?_, fun k x hk => ?_⟩
  · have a1 : i < 1 := (List.getElem?_eq_some_iff.mp h1).1
    have a2 : j < 1 := (List.getElem?_eq_some_iff.mp h2).1
    omega
  · have a1 : k < 1 := (List.getElem?_eq_some_iff.mp hk).1
    rw [show k = 0 by omega] at hk
    cases hk
    exact h
/-- an element of a list: an order or a trade -/
def EL (D : va_G) (H : Heap) (y : Nat) : Prop := ∃ (ci : Nat) (fs : List Value), (ci = 3 ∨ ci = 5) ∧ va_at D vwCl (y, .inr (ci, fs)) H
theorem EL_any {D : va_G} {dA : Nat → ClassId} {s : State} {H : Heap} {y : Nat} (hK : KS D dA s) (h : EL D H y) : va_Any "java/lang/Object" s H y := by
  obtain ⟨ci, fs, hci, ha⟩ := h
  have hc : ∀ C : String, va_Nw (.castable C "java/lang/Object") s → ∀ comp c0 : ClassId, s.vm.findClass "java/lang/Object" = some comp → s.vm.findClass C = some c0 → s.vm.assignable c0 comp = true := by
    intro C hw comp c0 h1 h2
    have hw : (Cond.castable C "java/lang/Object").before #[] s = true := hw
    obtain ⟨c3, c4, e3, e4, hasg⟩ := Cond.castable_spec hw
    cases h1.symm.trans e4
    cases h2.symm.trans e3
    exact hasg
  rcases hci with rfl | rfl
  · exact va_rAny hK.1 (one_of ha) (q0 := 0) rfl (r := (RX2, TX2, 6)) rfl (hc RX2 (hK.2 _ q_1089))
  · exact va_rAny hK.1 (one_of ha) (q0 := 0) rfl (r := (RX4, TX4, 5)) rfl (hc RX4 (hK.2 _ q_1090))
theorem dA6 {D : va_G} {dA : Nat → ClassId} {cl : List vw_C} {s : State} {cA : ClassId} (h : va_K D cl (TYs dA ++ [(cA, .object "java/lang/Object")]) s) : cA = dA 6 := by
  obtain ⟨k1, c1, -, -, -, e1⟩ := (h.2 6 (dA 6, .object "java/lang/Object") rfl).2
  obtain ⟨k2, c2, -, -, -, e2⟩ := (h.2 7 (cA, .object "java/lang/Object") rfl).2
  exact Option.some.inj (e2.symm.trans e1)
theorem dA0 {D : va_G} {dA : Nat → ClassId} {cl : List vw_C} {s : State} {cA : ClassId} (h : va_K D cl (TYs dA ++ [(cA, .int)]) s) : cA = dA 0 := by
  have e1 : s.vm.findClass ("[" ++ FieldType.int.toString) = some (dA 0) := (h.2 0 (dA 0, .int) rfl).2
  have e2 : s.vm.findClass ("[" ++ FieldType.int.toString) = some cA := (h.2 7 (cA, .int) rfl).2
  exact Option.some.inj (e2.symm.trans e1)
abbrev rfs (f : Nat → Option Nat) : (Nat → Int32) ⊕ (Nat → Int64) ⊕ (Nat → UInt32) ⊕ (Nat → UInt64) ⊕ (Nat → Option Nat) := .inr (.inr (.inr (.inr f)))
theorem ret_r {p : Program} {l : Launch} {e : Env} {R : Room} {s : State} {m : MethodId} {args : Array Value} {below : List Frame} {meth : Method} {c : Code} {H : Heap} {locs : List Loc} {cells slots nL : Nat} {cc : ByteArray} {own : String} {pc : Nat} {ls : Array Slot} {A0 : Nat → Prop} {S : Type} {post : S → Prop} {B : S → Nat → State → Prop} {t0 : FieldType} {a : Nat} (u : S) (hC : CTX p s m args meth c cc nL own (some (.array t0))) (hp : post u) (hB : ∀ t : State, t.heap = H → B u a t) (hS : va_S A0 s.heap H locs) (hdg : decode cc pc = .ok (.areturn, 1)) :
    W p l e R s m args below meth c H locs cells slots (MQ below (va_Qr post B A0) args s cells slots A0) (F0 m pc ls [.ref a]) :=
  W.aret hC.1 hC.2.1 hC.2.2.2.2.2.1 (Or.inr ⟨_, rfl⟩) (Or.inr ⟨_, rfl⟩) (fun t ht hW => ⟨⟨u, a, rfl, hp, hB t ht⟩, hS.F ht⟩) hS.2.2 hdg hC.2.2.2.2.2.2
theorem min_nk {n k : Nat} (h : n ≤ k) (hk : k < 2 ^ 31) : (if nI k < nI n then nI k else nI n) = nI n := if_neg (nI_nlt h hk)
set_option maxHeartbeats 4000000 in
set_option maxRecDepth 100000 in
/-- Arrays.copyOf of a row of references, its class told -/
theorem c_copyOf3 (l : Launch) (D : va_G) (dA : Nat → ClassId) (a n k mi sz : Nat) (f : Nat → Option Nat) (hn : n ≤ k) (hk : k < 2 ^ 27) : Met l yJ7_copyOf_6403c (WSy yJ7_copyOf_6403c cJ7_copyOf_6403c 4 (some (.array (.object "java/lang/Object")))) ({ frames := 1, cells := 1, slots := k, locals := 40 } : Room)
    (va_Pc [.ref a, .int (nI k), .ref mi] (fun U => U.heap.size = sz ∧ va_at D vwCl (a, .inl (dA 6, n, rfs f)) U.heap ∧ KS D dA U ∧ va_Mi "[Ljava/lang/Object;" mi U ∧ ∀ j, j < n → ∀ y, f j = some y → EL D U.heap y))
    (va_Qr (fun (_ : Unit) => True) (fun _ q t => sz ≤ q ∧ va_at D vwCl (a, .inl (dA 6, n, rfs f)) t.heap ∧ va_at D vwCl (q, .inl (dA 6, k, rfs (va_cpy f (fun _ => none) 0 0 n))) t.heap) (fun q => q = a ∨ sz ≤ q)) 1 k (fun q => q = a ∨ sz ≤ q) := by
  refine met_of (by decide) (Nat.le_of_ble_eq_true rfl) ?_
  intro p e s m below meth c ls hC hB hl
  obtain ⟨rfl, ha, hK, hM, hE⟩ := hB
  have hC : CTX p s m _ meth c cJ7_copyOf_6403c 4 RJ7 (some (.array (.object "java/lang/Object"))) := hC
  obtain ⟨hx, hb, hml, hown, hts, hr, hlk⟩ := id hC
  have hl : lv_has ls 4 [(0, .ref a), (1, .int (nI k)), (2, .ref mi)] := hl
  have halt : a < s.heap.size := ha.lt
  have hA : ∀ q : Nat, s.heap.size ≤ q → (fun q => q = a ∨ s.heap.size ≤ q) q := fun q h => Or.inr h
  have hP : va_P D vwCl [(a, .inl (dA 6, n, rfs f))] s.heap := one_of ha
  have hD : va_D (fun q => q = a ∨ s.heap.size ≤ q) [(a, .inl (dA 6, n, rfs f))] := one_D (Or.inl rfl)
  have hS : va_S (fun q => q = a ∨ s.heap.size ≤ q) s.heap s.heap [] := va_S.rf
  refine lv_aload_n hx hb dJ7_copyOf_6403c_0 rfl (lv_at hl 2 rfl) ?_
  refine va_ldcM hx hb hown (hts _ q_397) hM dJ7_copyOf_6403c_1 ?_
  refine lv_acmp_ne (rx := some mi) (ry := some mi) (tgt := 13) hx hb dJ7_copyOf_6403c_3 (by decide) (fun c0 => absurd rfl c0) (fun _ => ?_)
  refine lv_iload_n hx hb dJ7_copyOf_6403c_6 rfl (lv_at hl 1 rfl) ?_
  refine va_newq (C := "java/lang/Object") hx hb hown (hts _ q_399) (hK.2 _ q_398) hK.1 hP hD hS hA (nI_pos (by omega)) (nI_clamp (by omega)) (by omega) (Nat.le_refl _) (Nat.le_of_eq (Nat.zero_add k)) dJ7_copyOf_6403c_7 (fun q cA H hK1 hP hD hS => ?_)
  have hcA := dA6 hK1
  subst hcA
  refine lv_goto (tgt := 24) hx hb dJ7_copyOf_6403c_10 (by decide) ?_
  refine lv_astore_n (lv' := [(3, .ref q), (0, .ref a), (1, .int (nI k)), (2, .ref mi)]) hx hb dJ7_copyOf_6403c_24 rfl hl (by decide) rfl (fun ls hl => ?_)
  refine lv_aload_n hx hb dJ7_copyOf_6403c_25 rfl (lv_at hl 1 rfl) ?_
  refine lv_iconst (v := 0) hx hb dJ7_copyOf_6403c_26 (by decide) ?_
  refine lv_aload_n hx hb dJ7_copyOf_6403c_27 rfl (lv_at hl 0 rfl) ?_
  refine lv_iconst (v := 0) hx hb dJ7_copyOf_6403c_28 (by decide) ?_
  refine lv_aload_n hx hb dJ7_copyOf_6403c_29 rfl (lv_at hl 1 rfl) ?_
  refine va_alen (v := nI n) hx hb hK1 hP 0 6 rfl rfl rfl dJ7_copyOf_6403c_30 ?_
  refine lv_iload_n hx hb dJ7_copyOf_6403c_31 rfl (lv_at hl 2 rfl) ?_
  refine va_mmin hx hb (hml.trans hl.1.symm) hown (hts _ q_400) (hts _ q_309) (hts _ q_68) (hts _ q_310) (Nat.le_of_ble_eq_true rfl) (Nat.le_of_ble_eq_true rfl) (Nat.le_refl _) (Nat.le_of_eq (Nat.zero_add k)) dJ7_copyOf_6403c_32 ?_
  rw [min_nk hn (by omega)]
  refine va_copyM hx hb (hml.trans hl.1.symm) hown (hts _ q_401) (hts _ q_403) (hts _ q_402) (hts _ q_75) hK1 hP hD hS 0 1 6 6 rfl rfl rfl rfl (by decide) (by decide) (nI_pos (by omega)) (by rw [sb_cl0, nI_clamp (by omega)]; omega) (by rw [sb_cl0, nI_clamp (by omega)]; omega) (fun i hi y hy => ?_) (Nat.le_of_ble_eq_true rfl) (Nat.le_of_ble_eq_true rfl) dJ7_copyOf_6403c_35 (fun H1 locs1 hP1 hD1 hS1 => ?_)
  · rw [nI_clamp (by omega)] at hi
    rw [sb_cl0, Nat.zero_add] at hy
    refine EL_any hK ?_
    obtain ⟨ci, fs, hci, hat⟩ := hE i hi y hy
    refine ⟨ci, fs, hci, hat.kept ?_⟩
    by_cases e : y = a
    · subst e
      exact (hP 0 _ rfl : H[y]? = _).trans (ha : s.heap[y]? = _).symm
    · exact hS.2.1 y hat.lt (fun q => q.elim e (fun q => absurd hat.lt (Nat.not_lt.mpr q)))
  refine lv_aload_n hx hb dJ7_copyOf_6403c_38 rfl (lv_at hl 0 rfl) ?_
  refine W.widen (k := 1) (n := k) (Nat.le_refl 1) (Nat.le_of_eq (Nat.zero_add k)) ?_
  rw [nI_clamp (show n < 2 ^ 31 by omega), sb_cl0] at hP1
  have hq : s.heap.size ≤ q := (hD.2 1 _ rfl).resolve_left (fun e => absurd (hD.1 1 0 _ _ rfl rfl e) (by decide))
  exact ret_r () hC trivial (fun t ht => by rw [ht]; exact ⟨hq, hP1 0 _ rfl, hP1 1 _ rfl⟩) hS1 dJ7_copyOf_6403c_39
set_option maxHeartbeats 4000000 in
set_option maxRecDepth 100000 in
/-- Arrays.copyOf of a row of references -/
theorem c_copyOf2 (l : Launch) (D : va_G) (dA : Nat → ClassId) (a n k mi sz : Nat) (f : Nat → Option Nat) (hn : n ≤ k) (hk : k < 2 ^ 27) : Met l yJ7_copyOf_1904c (WSy yJ7_copyOf_1904c cJ7_copyOf_1904c 2 (some (.array (.object "java/lang/Object")))) ({ frames := 2, cells := 1, slots := k, locals := 63 } : Room)
    (va_Pc [.ref a, .int (nI k)] (fun U => U.heap.size = sz ∧ va_at D vwCl (a, .inl (dA 6, n, rfs f)) U.heap ∧ KS D dA U ∧ va_Mi "[Ljava/lang/Object;" mi U ∧ ∀ j, j < n → ∀ y, f j = some y → EL D U.heap y))
    (va_Qr (fun (_ : Unit) => True) (fun _ q t => sz ≤ q ∧ va_at D vwCl (a, .inl (dA 6, n, rfs f)) t.heap ∧ va_at D vwCl (q, .inl (dA 6, k, rfs (va_cpy f (fun _ => none) 0 0 n))) t.heap) (fun q => q = a ∨ sz ≤ q)) 1 k (fun q => q = a ∨ sz ≤ q) := by
  refine met_of (by decide) (Nat.le_of_ble_eq_true rfl) ?_
  intro p e s m below meth c ls hC hB hl
  obtain ⟨rfl, ha, hK, hM, hE⟩ := hB
  have hC : CTX p s m _ meth c cJ7_copyOf_1904c 2 RJ7 (some (.array (.object "java/lang/Object"))) := hC
  obtain ⟨hx, hb, hml, hown, hts, hr, hlk⟩ := id hC
  have hl : lv_has ls 2 [(0, .ref a), (1, .int (nI k))] := hl
  have hS : va_S (fun q => q = a ∨ s.heap.size ≤ q) s.heap s.heap [] := va_S.rf
  refine lv_aload_n hx hb dJ7_copyOf_1904c_0 rfl (lv_at hl 0 rfl) ?_
  refine lv_iload_n hx hb dJ7_copyOf_1904c_1 rfl (lv_at hl 1 rfl) ?_
  refine lv_aload_n hx hb dJ7_copyOf_1904c_2 rfl (lv_at hl 0 rfl) ?_
  have hrec : ∃ cell : Cell, s.heap[a]? = some cell ∧ cell.vm.isStatics = false ∧ s.vm.findClass "[Ljava/lang/Object;" = some cell.cls := by
    obtain ⟨kA, comp, -, -, -, e1⟩ := (hK.1.2 6 (dA 6, .object "java/lang/Object") rfl).2
    exact ⟨_, ha, rfl, e1⟩
  refine va_getC hx hb (hml.trans hl.1.symm) hown (hts _ q_378) (va_Nw.use rfl (hK.2 _ q_1096)) (hts _ q_1095) (hts _ q_379) (hts _ q_393) hM hrec (Nat.le_of_ble_eq_true rfl) (Nat.le_of_ble_eq_true rfl) dJ7_copyOf_1904c_3 ?_
  refine va_callr (va_runS (As := [.ref a, .int (nI k), .ref mi]) (rest := []) ⟨hx, hb, hml, hown, hts⟩ (c_copyOf3 l D dA a n k mi s.heap.size f hn hk) (va_cwS 3 hts (gS_of (own := RJ7) q_394 q_395 q_74 q_396) rfl rfl rfl (by decide +kernel) ⟨Nat.le_of_ble_eq_true rfl, Nat.le_of_ble_eq_true rfl⟩) ⟨fun a U g mk q => ?_, fun U hU hW => ⟨rfl, by rw [hU], by rw [hU]; exact ha, KS_warm hW hK, va_Mi.moved hW.alike hM, by rw [hU]; exact hE⟩⟩ rfl rfl hl.1 rfl (lv_room (Nat.le_of_ble_eq_true rfl)) dJ7_copyOf_1904c_6 ⟨Nat.le_refl _, Nat.le_of_eq (Nat.zero_add k)⟩) hS (fun q _ h => h) (fun q h => h) (fun u ra t H1 locs1 ht hvm hw hB hz hk1 hS1 => ?_)
  · obtain ⟨q0, q1, q2, q3, q4, q5⟩ := q
    exact ⟨q0, q1, q2, KS_calling q3, va_Mi.moved (u := U) (U := U.calling g mk a) (Vm.Alike.refl U.vm) q4, q5⟩
  refine W.widen (k := 1) (n := k) (Nat.le_refl 1) (Nat.le_of_eq (Nat.zero_add k)) ?_
  rw [ht] at hB
  exact ret_r () hC trivial (fun t ht => by rw [ht]; exact hB) hS1 dJ7_copyOf_1904c_9

