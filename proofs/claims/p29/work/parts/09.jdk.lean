def fJ3_checkIndex_8e157 (σ : St) (a1 : Int32) (a2 : Int32) : Option (Int32) := if a1 < 0 then none else if a1 < a2 then some (a1) else none
set_option maxHeartbeats 4000000 in
set_option maxRecDepth 100000 in
theorem mJ3_checkIndex_8e157 (l : Launch) (D : va_G) (dA : Nat → ClassId) (ad : Nat → Nat → Nat) (σ : St) (sz : Nat) (a1 : Int32) (a2 : Int32) (r : Int32) (hf : fJ3_checkIndex_8e157 σ a1 a2 = some r) : Met l yJ3_checkIndex_8e157 (WSy yJ3_checkIndex_8e157 cJ3_checkIndex_8e157 3 (some .int)) ({ frames := 0, cells := 0, slots := 0, locals := 0 } : Room) (va_Pc [.int a1, .int a2, .null] (fun U => U.heap.size = sz ∧ HA D dA (fun _ => True) ad σ U.heap ∧ KS D dA U)) (va_Qi (fun (x : Int32) (_ : Unit) => x = r) (fun _ t => HA D dA (WA ad (cvA σ) sz) ad σ t.heap) (WA ad (cvA σ) sz)) 0 0 (WA ad (cvA σ) sz) := by
  refine met_of (by decide) (Nat.le_of_ble_eq_true rfl) ?_
  intro p e s m below meth c ls hC hB hl
  obtain ⟨rfl, hR, hK⟩ := hB
  have hA : ∀ q : Nat, s.heap.size ≤ q → WA ad (cvA σ) s.heap.size q := fun q h => Or.inr h
  have hR := WW_fit (B := WA ad (cvA σ) s.heap.size) hR (fun f i h => WA_in h)
  have hS : va_S (WA ad (cvA σ) s.heap.size) s.heap s.heap [] := va_S.rf
  generalize WA ad (cvA σ) s.heap.size = A0 at hA hR hS ⊢
  have hC : CTX p s m _ meth c cJ3_checkIndex_8e157 3 RJ3 (some .int) := hC
  obtain ⟨hx, hb, hml, hown, hts, hr, hlk⟩ := id hC
  have hl : lv_has ls 3 [(0, .int a1), (1, .int a2), (2, .null)] := hl
  unfold fJ3_checkIndex_8e157 at hf
  refine lv_iload_n hx hb dJ3_checkIndex_8e157_0 rfl (lv_at hl 0 rfl) ?_
  refine lv_if_lt (tgt := 9) hx hb dJ3_checkIndex_8e157_1 (by decide) (fun c1 => ?_) (fun c1 => ?_)
  · have hf := if_of_pos hf c1
    refine lv_aload_nN hx hb dJ3_checkIndex_8e157_9 rfl (lv_at hl 2 rfl) ?_
    refine lv_iload_n hx hb dJ3_checkIndex_8e157_10 rfl (lv_at hl 0 rfl) ?_
    refine lv_iload_n hx hb dJ3_checkIndex_8e157_11 rfl (lv_at hl 1 rfl) ?_
    cases hf
  · have hf := if_of_neg hf c1
    refine lv_iload_n hx hb dJ3_checkIndex_8e157_4 rfl (lv_at hl 0 rfl) ?_
    refine lv_iload_n hx hb dJ3_checkIndex_8e157_5 rfl (lv_at hl 1 rfl) ?_
    refine lv_icmp_lt (tgt := 16) hx hb dJ3_checkIndex_8e157_6 (by decide) (fun c2 => ?_) (fun c2 => ?_)
    · have hf := if_of_pos hf c2
      refine lv_iload_n hx hb dJ3_checkIndex_8e157_16 rfl (lv_at hl 0 rfl) ?_
      cases hf
      exact ret_i hC hR hS dJ3_checkIndex_8e157_17
    · have hf := if_of_neg hf c2
      refine lv_aload_nN hx hb dJ3_checkIndex_8e157_9 rfl (lv_at hl 2 rfl) ?_
      refine lv_iload_n hx hb dJ3_checkIndex_8e157_10 rfl (lv_at hl 0 rfl) ?_
      refine lv_iload_n hx hb dJ3_checkIndex_8e157_11 rfl (lv_at hl 1 rfl) ?_
      cases hf
def fJ15_checkIndex_7cf53 (σ : St) (a1 : Int32) (a2 : Int32) : Option (Int32) := bd (fJ3_checkIndex_8e157 σ a1 a2) (fun q1 => some (q1))
set_option maxHeartbeats 4000000 in
set_option maxRecDepth 100000 in
theorem mJ15_checkIndex_7cf53 (l : Launch) (D : va_G) (dA : Nat → ClassId) (ad : Nat → Nat → Nat) (σ : St) (sz : Nat) (a1 : Int32) (a2 : Int32) (r : Int32) (hf : fJ15_checkIndex_7cf53 σ a1 a2 = some r) : Met l yJ15_checkIndex_7cf53 (WSy yJ15_checkIndex_7cf53 cJ15_checkIndex_7cf53 2 (some .int)) ({ frames := 1, cells := 0, slots := 0, locals := 22 } : Room) (va_Pc [.int a1, .int a2] (fun U => U.heap.size = sz ∧ HA D dA (fun _ => True) ad σ U.heap ∧ KS D dA U)) (va_Qi (fun (x : Int32) (_ : Unit) => x = r) (fun _ t => HA D dA (WA ad (cvA σ) sz) ad σ t.heap) (WA ad (cvA σ) sz)) 0 0 (WA ad (cvA σ) sz) := by
  refine met_of (by decide) (Nat.le_of_ble_eq_true rfl) ?_
  intro p e s m below meth c ls hC hB hl
  obtain ⟨rfl, hR, hK⟩ := hB
  have hA : ∀ q : Nat, s.heap.size ≤ q → WA ad (cvA σ) s.heap.size q := fun q h => Or.inr h
  have hR := WW_fit (B := WA ad (cvA σ) s.heap.size) hR (fun f i h => WA_in h)
  have hS : va_S (WA ad (cvA σ) s.heap.size) s.heap s.heap [] := va_S.rf
  generalize WA ad (cvA σ) s.heap.size = A0 at hA hR hS ⊢
  have hC : CTX p s m _ meth c cJ15_checkIndex_7cf53 2 RJ15 (some .int) := hC
  obtain ⟨hx, hb, hml, hown, hts, hr, hlk⟩ := id hC
  have hl : lv_has ls 2 [(0, .int a1), (1, .int a2)] := hl
  unfold fJ15_checkIndex_7cf53 at hf
  refine lv_iload_n hx hb dJ15_checkIndex_7cf53_0 rfl (lv_at hl 0 rfl) ?_
  refine lv_iload_n hx hb dJ15_checkIndex_7cf53_1 rfl (lv_at hl 1 rfl) ?_
  refine lv_null hx hb dJ15_checkIndex_7cf53_2 ?_
  obtain ⟨q1, hcq1, hf⟩ := bd_of hf
  refine kc_i (va_runS (As := [.int a1, .int a2, .null]) (rest := []) ⟨hx, hb, hml, hown, hts⟩ (mJ3_checkIndex_8e157 l D dA ad σ _ a1 a2 q1 hcq1) (va_cwS 3 hts gJ15_105 rfl rfl rfl (by decide +kernel) ⟨Nat.le_of_ble_eq_true rfl, Nat.le_of_ble_eq_true rfl⟩) (preS_of hR hK _) rfl rfl hl.1 rfl (lv_room (Nat.le_of_ble_eq_true rfl)) dJ15_checkIndex_7cf53_3 ⟨Nat.zero_le _, Nat.zero_le _⟩) hA hR hS (fun H locs hR hS => ?_)
  cases hf
  exact ret_i hC hR hS dJ15_checkIndex_7cf53_6
def fJ8_newLength_cabcc (σ : St) (a1 : Int32) (a2 : Int32) (a3 : Int32) : Option (Int32) := kst (a1 + (if a2 < a3 then a3 else a2)) (fun x1 => if x1 ≤ 0 then none else if 2147483639 < x1 then none else some (x1))
set_option maxHeartbeats 4000000 in
set_option maxRecDepth 100000 in
theorem mJ8_newLength_cabcc (l : Launch) (D : va_G) (dA : Nat → ClassId) (ad : Nat → Nat → Nat) (σ : St) (sz : Nat) (a1 : Int32) (a2 : Int32) (a3 : Int32) (r : Int32) (hf : fJ8_newLength_cabcc σ a1 a2 a3 = some r) : Met l yJ8_newLength_cabcc (WSy yJ8_newLength_cabcc cJ8_newLength_cabcc 4 (some .int)) ({ frames := 1, cells := 0, slots := 0, locals := 23 } : Room) (va_Pc [.int a1, .int a2, .int a3] (fun U => U.heap.size = sz ∧ HA D dA (fun _ => True) ad σ U.heap ∧ KS D dA U)) (va_Qi (fun (x : Int32) (_ : Unit) => x = r) (fun _ t => HA D dA (WA ad (cvA σ) sz) ad σ t.heap) (WA ad (cvA σ) sz)) 0 0 (WA ad (cvA σ) sz) := by
  refine met_of (by decide) (Nat.le_of_ble_eq_true rfl) ?_
  intro p e s m below meth c ls hC hB hl
  obtain ⟨rfl, hR, hK⟩ := hB
  have hA : ∀ q : Nat, s.heap.size ≤ q → WA ad (cvA σ) s.heap.size q := fun q h => Or.inr h
  have hR := WW_fit (B := WA ad (cvA σ) s.heap.size) hR (fun f i h => WA_in h)
  have hS : va_S (WA ad (cvA σ) s.heap.size) s.heap s.heap [] := va_S.rf
  generalize WA ad (cvA σ) s.heap.size = A0 at hA hR hS ⊢
  have hC : CTX p s m _ meth c cJ8_newLength_cabcc 4 RJ8 (some .int) := hC
  obtain ⟨hx, hb, hml, hown, hts, hr, hlk⟩ := id hC
  have hl : lv_has ls 4 [(0, .int a1), (1, .int a2), (2, .int a3)] := hl
  unfold fJ8_newLength_cabcc at hf
  refine lv_iload_n hx hb dJ8_newLength_cabcc_0 rfl (lv_at hl 0 rfl) ?_
  refine lv_iload_n hx hb dJ8_newLength_cabcc_1 rfl (lv_at hl 1 rfl) ?_
  refine lv_iload_n hx hb dJ8_newLength_cabcc_2 rfl (lv_at hl 2 rfl) ?_
  refine va_mmax hx hb (hml.trans hl.1.symm) hown (hts _ q_469) (hts _ q_338) (hts _ q_48) (hts _ q_339) (Nat.le_of_ble_eq_true rfl) (Nat.le_of_ble_eq_true rfl) (Nat.le_of_ble_eq_true rfl) (Nat.le_of_ble_eq_true rfl) dJ8_newLength_cabcc_3 ?_
  refine lv_iadd hx hb dJ8_newLength_cabcc_6 ?_
  refine lv_topi (fun x1 hx1 => ?_)
  have hf := kst_eq hx1 hf
  refine lv_istore_n (lv' := [(3, .int x1), (0, .int a1), (1, .int a2), (2, .int a3)]) hx hb dJ8_newLength_cabcc_7 rfl hl (by decide) rfl (fun ls hl => ?_)
  refine lv_iconst (v := 0) hx hb dJ8_newLength_cabcc_8 (by decide) ?_
  refine lv_iload_n hx hb dJ8_newLength_cabcc_9 rfl (lv_at hl 0 rfl) ?_
  refine lv_icmp_ge (tgt := 21) hx hb dJ8_newLength_cabcc_10 (by decide) (fun c2 => ?_) (fun c2 => ?_)
  · have hf := if_of_pos hf c2
    refine lv_iload_n hx hb dJ8_newLength_cabcc_21 rfl (lv_at hl 1 rfl) ?_
    refine lv_iload_n hx hb dJ8_newLength_cabcc_22 rfl (lv_at hl 2 rfl) ?_
    cases hf
  · have hf := if_of_neg hf c2
    refine lv_iload_n hx hb dJ8_newLength_cabcc_13 rfl (lv_at hl 0 rfl) ?_
    refine lv_ldc (v := 2147483639) hx hb hown (hts _ q_470) dJ8_newLength_cabcc_14 ?_
    refine lv_icmp_gt (tgt := 21) hx hb dJ8_newLength_cabcc_16 (by decide) (fun c3 => ?_) (fun c3 => ?_)
    · have hf := if_of_pos hf c3
      refine lv_iload_n hx hb dJ8_newLength_cabcc_21 rfl (lv_at hl 1 rfl) ?_
      refine lv_iload_n hx hb dJ8_newLength_cabcc_22 rfl (lv_at hl 2 rfl) ?_
      cases hf
    · have hf := if_of_neg hf c3
      refine lv_iload_n hx hb dJ8_newLength_cabcc_19 rfl (lv_at hl 0 rfl) ?_
      cases hf
      exact ret_i hC hR hS dJ8_newLength_cabcc_20
def fJx4a65c_size_8abf5 (σ : St) : Option (Int32) := some (nI (gN σ 0))
set_option maxHeartbeats 4000000 in
set_option maxRecDepth 100000 in
theorem mJx4a65c_size_8abf5 (l : Launch) (D : va_G) (dA : Nat → ClassId) (ad : Nat → Nat → Nat) (σ : St) (sz : Nat) (r : Int32) (hf : fJx4a65c_size_8abf5 σ = some r) : Met l yJx4a65c_size_8abf5 (WSy yJx4a65c_size_8abf5 cJx4a65c_size_8abf5 1 (some .int)) ({ frames := 0, cells := 0, slots := 0, locals := 0 } : Room) (va_Pc [.ref (ad 0 0)] (fun U => U.heap.size = sz ∧ HA D dA (fun _ => True) ad σ U.heap ∧ KS D dA U)) (va_Qi (fun (x : Int32) (_ : Unit) => x = r) (fun _ t => HA D dA (WA ad (cvA σ) sz) ad σ t.heap) (WA ad (cvA σ) sz)) 0 0 (WA ad (cvA σ) sz) := by
  refine met_of (by decide) (Nat.le_of_ble_eq_true rfl) ?_
  intro p e s m below meth c ls hC hB hl
  obtain ⟨rfl, hR, hK⟩ := hB
  have hA : ∀ q : Nat, s.heap.size ≤ q → WA ad (cvA σ) s.heap.size q := fun q h => Or.inr h
  have hR := WW_fit (B := WA ad (cvA σ) s.heap.size) hR (fun f i h => WA_in h)
  have hS : va_S (WA ad (cvA σ) s.heap.size) s.heap s.heap [] := va_S.rf
  generalize WA ad (cvA σ) s.heap.size = A0 at hA hR hS ⊢
  have hC : CTX p s m _ meth c cJx4a65c_size_8abf5 1 RJx4a65c (some .int) := hC
  obtain ⟨hx, hb, hml, hown, hts, hr, hlk⟩ := id hC
  have hl : lv_has ls 1 [(0, .ref (ad 0 0))] := hl
  unfold fJx4a65c_size_8abf5 at hf
  refine lv_aload_n hx hb dJx4a65c_size_8abf5_0 rfl (lv_at hl 0 rfl) ?_
  refine va_get (D := D) (ci := 0) (C := RJx4a65c) (T := TJx4a65c) (N := 3) hx hb hts iuJx4a65c hown hK.1 (WW_one hR (f := 0) (i := 0) rfl) 0 rfl rfl 2 (by decide) (hts _ q_86) (fun _ h9 => h9) rfl dJx4a65c_size_8abf5_1 ?_
  cases hf
  exact ret_i hC hR hS dJx4a65c_size_8abf5_4
def fJx4a65c_elementData_915e3 (σ : St) (a1 : Int32) : Option (Option Nat) := gd (vin a1 (gN σ 1)) (gd (a1.toNatClampNeg < gN σ 0) (some (some a1.toNatClampNeg)))
set_option maxHeartbeats 4000000 in
set_option maxRecDepth 100000 in
theorem mJx4a65c_elementData_915e3 (l : Launch) (D : va_G) (dA : Nat → ClassId) (ad : Nat → Nat → Nat) (σ : St) (sz : Nat) (a1 : Int32) (r : Option Nat) (hf : fJx4a65c_elementData_915e3 σ a1 = some r) : Met l yJx4a65c_elementData_915e3 (WSy yJx4a65c_elementData_915e3 cJx4a65c_elementData_915e3 2 (some (.object "java/lang/Object"))) ({ frames := 0, cells := 0, slots := 0, locals := 0 } : Room) (va_Pc [.ref (ad 0 0), .int a1] (fun U => U.heap.size = sz ∧ HA D dA (fun _ => True) ad σ U.heap ∧ KS D dA U)) (va_Qq (fun (x : Option Nat) (_ : Unit) => x = r.map (ad 2)) (fun _ t => HA D dA (WA ad (cvA σ) sz) ad σ t.heap) (WA ad (cvA σ) sz)) 0 0 (WA ad (cvA σ) sz) := by
  refine met_of (by decide) (Nat.le_of_ble_eq_true rfl) ?_
  intro p e s m below meth c ls hC hB hl
  obtain ⟨rfl, hR, hK⟩ := hB
  have hA : ∀ q : Nat, s.heap.size ≤ q → WA ad (cvA σ) s.heap.size q := fun q h => Or.inr h
  have hR := WW_fit (B := WA ad (cvA σ) s.heap.size) hR (fun f i h => WA_in h)
  have hS : va_S (WA ad (cvA σ) s.heap.size) s.heap s.heap [] := va_S.rf
  generalize WA ad (cvA σ) s.heap.size = A0 at hA hR hS ⊢
  have hC : CTX p s m _ meth c cJx4a65c_elementData_915e3 2 RJx4a65c (some (.object "java/lang/Object")) := hC
  obtain ⟨hx, hb, hml, hown, hts, hr, hlk⟩ := id hC
  have hl : lv_has ls 2 [(0, .ref (ad 0 0)), (1, .int a1)] := hl
  unfold fJx4a65c_elementData_915e3 at hf
  refine lv_aload_n hx hb dJx4a65c_elementData_915e3_0 rfl (lv_at hl 0 rfl) ?_
  refine va_get (D := D) (ci := 0) (C := RJx4a65c) (T := TJx4a65c) (N := 3) hx hb hts iuJx4a65c hown hK.1 (WW_one hR (f := 0) (i := 0) rfl) 0 rfl rfl 1 (by decide) (hts _ q_85) (fun _ h9 => h9) rfl dJx4a65c_elementData_915e3_1 ?_
  refine lv_iload_n hx hb dJx4a65c_elementData_915e3_4 rfl (lv_at hl 1 rfl) ?_
  obtain ⟨g1, hf⟩ := gd_of hf
  obtain ⟨g2, hf⟩ := gd_of hf
  refine va_aldq (C := "java/lang/Object") hx hb hK.1 (WW_one hR (f := 1) (i := 0) ⟨rfl, Nat.lt_of_le_of_lt (Nat.zero_le _) (vin_lt g1)⟩) 0 6 rfl rfl g1 dJx4a65c_elementData_915e3_5 ?_
  rw [if_pos g2]
  cases hf
  exact ret_q hC hR hS dJx4a65c_elementData_915e3_6
def fJx4a65c_get_915e3 (σ : St) (a1 : Int32) : Option (Option Nat) := bd (fJ15_checkIndex_7cf53 σ a1 (nI (gN σ 0))) (fun q1 => bd (fJx4a65c_elementData_915e3 σ a1) (fun q2 => some (q2)))
set_option maxHeartbeats 4000000 in
set_option maxRecDepth 100000 in
theorem mJx4a65c_get_915e3 (l : Launch) (D : va_G) (dA : Nat → ClassId) (ad : Nat → Nat → Nat) (σ : St) (sz : Nat) (a1 : Int32) (r : Option Nat) (hf : fJx4a65c_get_915e3 σ a1 = some r) : Met l yJx4a65c_get_915e3 (WSy yJx4a65c_get_915e3 cJx4a65c_get_915e3 2 (some (.object "java/lang/Object"))) ({ frames := 2, cells := 0, slots := 0, locals := 43 } : Room) (va_Pc [.ref (ad 0 0), .int a1] (fun U => U.heap.size = sz ∧ HA D dA (fun _ => True) ad σ U.heap ∧ KS D dA U)) (va_Qq (fun (x : Option Nat) (_ : Unit) => x = r.map (ad 2)) (fun _ t => HA D dA (WA ad (cvA σ) sz) ad σ t.heap) (WA ad (cvA σ) sz)) 0 0 (WA ad (cvA σ) sz) := by
  refine met_of (by decide) (Nat.le_of_ble_eq_true rfl) ?_
  intro p e s m below meth c ls hC hB hl
  obtain ⟨rfl, hR, hK⟩ := hB
  have hA : ∀ q : Nat, s.heap.size ≤ q → WA ad (cvA σ) s.heap.size q := fun q h => Or.inr h
  have hR := WW_fit (B := WA ad (cvA σ) s.heap.size) hR (fun f i h => WA_in h)
  have hS : va_S (WA ad (cvA σ) s.heap.size) s.heap s.heap [] := va_S.rf
  generalize WA ad (cvA σ) s.heap.size = A0 at hA hR hS ⊢
  have hC : CTX p s m _ meth c cJx4a65c_get_915e3 2 RJx4a65c (some (.object "java/lang/Object")) := hC
  obtain ⟨hx, hb, hml, hown, hts, hr, hlk⟩ := id hC
  have hl : lv_has ls 2 [(0, .ref (ad 0 0)), (1, .int a1)] := hl
  unfold fJx4a65c_get_915e3 at hf
  refine lv_iload_n hx hb dJx4a65c_get_915e3_0 rfl (lv_at hl 1 rfl) ?_
  refine lv_aload_n hx hb dJx4a65c_get_915e3_1 rfl (lv_at hl 0 rfl) ?_
  refine va_get (D := D) (ci := 0) (C := RJx4a65c) (T := TJx4a65c) (N := 3) hx hb hts iuJx4a65c hown hK.1 (WW_one hR (f := 0) (i := 0) rfl) 0 rfl rfl 2 (by decide) (hts _ q_86) (fun _ h9 => h9) rfl dJx4a65c_get_915e3_2 ?_
  obtain ⟨q1, hcq1, hf⟩ := bd_of hf
  refine kc_i (va_runS (As := [.int a1, .int (nI (gN σ 0))]) (rest := []) ⟨hx, hb, hml, hown, hts⟩ (mJ15_checkIndex_7cf53 l D dA ad σ _ a1 (nI (gN σ 0)) q1 hcq1) (va_cwS 2 hts gJx4a65c_118 rfl rfl rfl (by decide +kernel) ⟨Nat.le_of_ble_eq_true rfl, Nat.le_of_ble_eq_true rfl⟩) (preS_of hR hK _) rfl rfl hl.1 rfl (lv_room (Nat.le_of_ble_eq_true rfl)) dJx4a65c_get_915e3_5 ⟨Nat.zero_le _, Nat.zero_le _⟩) hA hR hS (fun H locs hR hS => ?_)
  refine lv_pop hx hb dJx4a65c_get_915e3_8 rfl ?_
  refine lv_aload_n hx hb dJx4a65c_get_915e3_9 rfl (lv_at hl 0 rfl) ?_
  refine lv_iload_n hx hb dJx4a65c_get_915e3_10 rfl (lv_at hl 1 rfl) ?_
  obtain ⟨q2, hcq2, hf⟩ := bd_of hf
  refine kc_q (va_runV (As := [.int a1]) (rest := []) ⟨hx, hb, hml, hown, hts⟩ (mJx4a65c_elementData_915e3 l D dA ad σ _ a1 q2 hcq2) (cwV 1 hts gJx4a65c_123 rfl rfl rfl (by decide +kernel) ⟨Nat.le_of_ble_eq_true rfl, Nat.le_of_ble_eq_true rfl⟩) (preV_of hR hK (f := 0) (i := 0) rfl rfl rfl _) rfl rfl hl.1 rfl (lv_room (Nat.le_of_ble_eq_true rfl)) dJx4a65c_get_915e3_11 ⟨Nat.zero_le _, Nat.zero_le _⟩) hA hR hS (fun H locs hR hS => ?_)
  cases hf
  exact ret_q hC hR hS dJx4a65c_get_915e3_14
