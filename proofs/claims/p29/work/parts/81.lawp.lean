/-! words -/
theorem q_280 : (Cond.methodLink "MarginCourtLaw" 162 ⟨"MarginCourtLaw", "cell", "([II)I"⟩) ∈ WU := wu_mem (lw_in2 (List.mem_of_getElem? (i := 6) rfl)) rfl
theorem q_281 : (Cond.static ⟨"MarginCourtLaw", "cell", "([II)I"⟩) ∈ WU := wu_mem (lw_in2 (List.mem_of_getElem? (i := 7) rfl)) rfl
theorem q_282 : (Cond.code ⟨"MarginCourtLaw", "cell", "([II)I"⟩ method_2_code 3 (some .int)) ∈ WU := wu_mem (lw_in2 (List.mem_of_getElem? (i := 8) rfl)) rfl
theorem q_283 : (Cond.constant "MarginCourtLaw" 7 (90011 : Int32)) ∈ WU := wu_mem (lw_in2 (List.mem_of_getElem? (i := 9) rfl)) rfl
theorem q_284 : (Cond.constant "MarginCourtLaw" 8 (798275539 : Int32)) ∈ WU := wu_mem (lw_in2 (List.mem_of_getElem? (i := 10) rfl)) rfl
theorem q_665 : (Cond.methodLink "MarginCourtLaw" 166 ⟨"MarginCourtLaw", "tells", "(LMarginCourt;LMarginCourt;I)Z"⟩) ∈ WU := wu_mem (lw_in3 (List.mem_of_getElem? (i := 151) rfl)) rfl
theorem q_666 : (Cond.static ⟨"MarginCourtLaw", "tells", "(LMarginCourt;LMarginCourt;I)Z"⟩) ∈ WU := wu_mem (lw_in3 (List.mem_of_getElem? (i := 152) rfl)) rfl
theorem q_667 : (Cond.code ⟨"MarginCourtLaw", "tells", "(LMarginCourt;LMarginCourt;I)Z"⟩ method_11_code 10 (some .boolean)) ∈ WU := wu_mem (lw_in3 (List.mem_of_getElem? (i := 153) rfl)) rfl
theorem q_668 : (Cond.methodLink "MarginCourtLaw" 170 ⟨"MarginCourtLaw", "pays", "(LMarginCourt;LMarginCourt;II)Z"⟩) ∈ WU := wu_mem (lw_in3 (List.mem_of_getElem? (i := 154) rfl)) rfl
theorem q_669 : (Cond.static ⟨"MarginCourtLaw", "pays", "(LMarginCourt;LMarginCourt;II)Z"⟩) ∈ WU := wu_mem (lw_in3 (List.mem_of_getElem? (i := 155) rfl)) rfl
theorem q_670 : (Cond.code ⟨"MarginCourtLaw", "pays", "(LMarginCourt;LMarginCourt;II)Z"⟩ method_12_code 14 (some .boolean)) ∈ WU := wu_mem (lw_in3 (List.mem_of_getElem? (i := 156) rfl)) rfl
theorem q_671 : (Cond.methodLink "MarginCourtLaw" 174 ⟨"MarginCourtLaw", "places", "(LMarginCourt;LMarginCourt;II)Z"⟩) ∈ WU := wu_mem (lw_in3 (List.mem_of_getElem? (i := 157) rfl)) rfl
theorem q_672 : (Cond.static ⟨"MarginCourtLaw", "places", "(LMarginCourt;LMarginCourt;II)Z"⟩) ∈ WU := wu_mem (lw_in3 (List.mem_of_getElem? (i := 158) rfl)) rfl
theorem q_673 : (Cond.code ⟨"MarginCourtLaw", "places", "(LMarginCourt;LMarginCourt;II)Z"⟩ method_13_code 22 (some .boolean)) ∈ WU := wu_mem (lw_in3 (List.mem_of_getElem? (i := 159) rfl)) rfl
theorem q_674 : (Cond.methodLink "MarginCourtLaw" 177 ⟨"MarginCourtLaw", "evening", "(LMarginCourt;LMarginCourt;)Z"⟩) ∈ WU := wu_mem (lw_in3 (List.mem_of_getElem? (i := 160) rfl)) rfl
theorem q_675 : (Cond.static ⟨"MarginCourtLaw", "evening", "(LMarginCourt;LMarginCourt;)Z"⟩) ∈ WU := wu_mem (lw_in3 (List.mem_of_getElem? (i := 161) rfl)) rfl
theorem q_676 : (Cond.code ⟨"MarginCourtLaw", "evening", "(LMarginCourt;LMarginCourt;)Z"⟩ method_14_code 7 (some .boolean)) ∈ WU := wu_mem (lw_in3 (List.mem_of_getElem? (i := 162) rfl)) rfl
theorem q_685 : (Cond.methodLink "MarginCourtLaw" 180 ⟨"MarginCourtLaw", "hour", "(LMarginCourt;LMarginCourt;)Z"⟩) ∈ WU := wu_mem (lw_in3 (List.mem_of_getElem? (i := 171) rfl)) rfl
theorem q_686 : (Cond.static ⟨"MarginCourtLaw", "hour", "(LMarginCourt;LMarginCourt;)Z"⟩) ∈ WU := wu_mem (lw_in3 (List.mem_of_getElem? (i := 172) rfl)) rfl
theorem q_687 : (Cond.code ⟨"MarginCourtLaw", "hour", "(LMarginCourt;LMarginCourt;)Z"⟩ method_15_code 16 (some .boolean)) ∈ WU := wu_mem (lw_in3 (List.mem_of_getElem? (i := 173) rfl)) rfl
theorem q_770 : (Cond.methodLink "MarginCourtLaw" 158 ⟨"MarginCourtLaw", "refused", "(LMarginCourt;I)Z"⟩) ∈ WU := wu_mem (lw_in4 (List.mem_of_getElem? (i := 16) rfl)) rfl
theorem q_771 : (Cond.static ⟨"MarginCourtLaw", "refused", "(LMarginCourt;I)Z"⟩) ∈ WU := wu_mem (lw_in4 (List.mem_of_getElem? (i := 17) rfl)) rfl
theorem q_772 : (Cond.code ⟨"MarginCourtLaw", "refused", "(LMarginCourt;I)Z"⟩ method_16_code 5 (some .boolean)) ∈ WU := wu_mem (lw_in4 (List.mem_of_getElem? (i := 18) rfl)) rfl
theorem gL_158 : GoodIn WU (va_wsS RL 158 yL_refused (WSy yL_refused cL_refused 5 (some .boolean))) := gS_of q_770 q_771 q_34 q_772
theorem gL_162 : GoodIn WU (va_wsS RL 162 yL_cell (WSy yL_cell cL_cell 3 (some .int))) := gS_of q_280 q_281 q_34 q_282
theorem gL_166 : GoodIn WU (va_wsS RL 166 yL_tells (WSy yL_tells cL_tells 10 (some .boolean))) := gS_of q_665 q_666 q_34 q_667
theorem gL_170 : GoodIn WU (va_wsS RL 170 yL_pays (WSy yL_pays cL_pays 14 (some .boolean))) := gS_of q_668 q_669 q_34 q_670
theorem gL_174 : GoodIn WU (va_wsS RL 174 yL_places (WSy yL_places cL_places 22 (some .boolean))) := gS_of q_671 q_672 q_34 q_673
theorem gL_177 : GoodIn WU (va_wsS RL 177 yL_evening (WSy yL_evening cL_evening 7 (some .boolean))) := gS_of q_674 q_675 q_34 q_676
theorem gL_180 : GoodIn WU (va_wsS RL 180 yL_hour (WSy yL_hour cL_hour 16 (some .boolean))) := gS_of q_685 q_686 q_34 q_687
/-! THE LAW: its script's numbers, its body behind the making of both houses -/
set_option maxRecDepth 100000 in
theorem mL_cell (l : Launch) (b L : Nat) (xs : Nat → Int32) (hL : L ≤ 260) (sz : Nat) (k : Int32) (hk : ¬ k < 0) : Met l yL_cell (WSy yL_cell cL_cell 3 (some .int)) ({ frames := 0, cells := 0, slots := 0, locals := 0 } : Room) (va_Pc [.ref b, .int k] (fun U => U.heap.size = sz ∧ b < sz ∧ va_X b L xs U U.heap)) (va_Qi (fun (z : Int32) (_ : Unit) => z = cellV L xs k) (fun _ _ => True) (fun q => sz ≤ q)) 0 0 (fun q => sz ≤ q) := by
  refine met_of (by decide) (Nat.le_of_ble_eq_true rfl) ?_
  intro p e s m below meth c ls hC hB hl
  obtain ⟨rfl, hbl, hX⟩ := hB
  have hS : va_S (fun q => s.heap.size ≤ q) s.heap s.heap [] := va_S.rf
  have hbA : ¬ (fun q : Nat => s.heap.size ≤ q) b := by show ¬ s.heap.size ≤ b; omega
  generalize hA0 : (fun q : Nat => s.heap.size ≤ q) = A0 at hS hbA ⊢
  have hC : CTX p s m _ meth c cL_cell 3 RL (some .int) := hC
  obtain ⟨hx, hb, hml, hown, hts, hr, hlk⟩ := id hC
  have hl : lv_has ls 3 [(0, .ref b), (1, .int k)] := hl
  have key : ∀ (v : Int32) (ls : Array Slot), v = cellR L xs k → lv_has ls 3 [(2, .int v), (0, .ref b), (1, .int k)] → W p l e ({ frames := 0, cells := 0, slots := 0, locals := 0 } : Room) s m #[.ref b, .int k] below meth c s.heap [] 0 0 (MQ below (va_Qi (fun (z : Int32) (_ : Unit) => z = cellV L xs k) (fun _ _ => True) A0) #[.ref b, .int k] s 0 0 A0) (F0 m 20 ls []) := by
    intro v ls hv hl
    refine lv_iload_n hx hb dL_cell_20 rfl (lv_at hl 0 rfl) ?_
    refine lv_iload_n hx hb dL_cell_21 rfl (lv_at hl 0 rfl) ?_
    refine lv_bipush (v := 16) hx hb dL_cell_22 (by decide) ?_
    refine lv_iushr hx hb dL_cell_24 rfl ?_
    refine lv_ixor hx hb dL_cell_25 ?_
    refine lv_ldc (v := 798275539) hx hb hown (hts _ q_284) dL_cell_26 ?_
    refine lv_imul hx hb dL_cell_28 ?_
    refine lv_sipush (v := 203) hx hb dL_cell_29 (by decide) ?_
    refine lv_iload_n hx hb dL_cell_32 rfl (lv_at hl 2 rfl) ?_
    refine lv_imul hx hb dL_cell_33 ?_
    refine lv_iadd hx hb dL_cell_34 ?_
    subst hv
    exact W.iret hx hb hr (fun t ht _ => ⟨⟨_, (), rfl, rfl, trivial⟩, hS.F ht⟩) hS.2.2 dL_cell_35 hlk
  refine lv_iload_n hx hb dL_cell_0 rfl (lv_at hl 1 rfl) ?_
  refine lv_aload_n hx hb dL_cell_1 rfl (lv_at hl 0 rfl) ?_
  refine va_slen hx hb hX hbl hbA hS dL_cell_2 ?_
  refine lv_icmp_ge (tgt := 12) hx hb dL_cell_3 (by decide) (fun c0 => ?_) (fun c0 => ?_)
  · refine lv_ldc (v := 90011) hx hb hown (hts _ q_283) dL_cell_12 ?_
    refine lv_iload_n hx hb dL_cell_14 rfl (lv_at hl 1 rfl) ?_
    refine lv_bipush (v := 67) hx hb dL_cell_15 (by decide) ?_
    refine lv_iadd hx hb dL_cell_17 ?_
    refine lv_imul hx hb dL_cell_18 ?_
    refine lv_istore_n (lv' := [(2, .int (90011 * (k + 67))), (0, .ref b), (1, .int k)]) hx hb dL_cell_19 rfl hl (by decide) rfl (fun ls hl => ?_)
    exact key _ ls (if_pos c0).symm hl
  · obtain ⟨j, hj, rfl⟩ := nI_of (x := k) hk
    have hjL : j < L := by
      have h3 : ¬ nI L ≤ nI j := c0
      rw [nI_leI (by omega) (by omega)] at h3
      omega
    refine lv_aload_n hx hb dL_cell_6 rfl (lv_at hl 0 rfl) ?_
    refine lv_iload_n hx hb dL_cell_7 rfl (lv_at hl 1 rfl) ?_
    refine va_sld hx hb hX hbl hbA hS (vin_nI hjL (by omega)) dL_cell_8 ?_
    refine lv_goto (tgt := 19) hx hb dL_cell_9 (by decide) ?_
    refine lv_istore_n (lv' := [(2, .int (xs (nI j).toNatClampNeg)), (0, .ref b), (1, .int (nI j))]) hx hb dL_cell_19 rfl hl (by decide) rfl (fun ls hl => ?_)
    exact key _ ls (if_neg c0).symm hl
section CEL
variable {p : Program} {l : Launch} {e : Env} {R : Room} {s : State} {m : MethodId} {args : Array Value} {below : List Frame} {meth : Method} {c : Code} {H : Heap} {locs : List Loc} {cells slots : Nat} {Q : State → Prop}
variable {pc : Nat} {ls : Array Slot} {rest st0 : List Value} {D : va_G} {dA : Nat → ClassId} {A0 : Nat → Prop} {σ1 σ2 : St} {x h1 h2 b L : Nat} {xs : Nat → Int32} {a : Array Value}
theorem preCell (hXS : va_X b L xs s s.heap) (hbl : b < s.heap.size) (hbA : ¬ A0 b) (hS : va_S A0 s.heap H locs) (As : List Value) : PreS s H (va_Pc As (fun U => U.heap.size = H.size ∧ b < H.size ∧ va_X b L xs U U.heap)) As := by
  refine ⟨fun a U g mk q => ?_, fun U hU hWm => ⟨rfl, by rw [hU], Nat.lt_of_lt_of_le hbl hS.1, by rw [hU]; exact (hXS.kept (hS.2.1 b hbl hbA)).moved hWm.alike⟩⟩
  obtain ⟨q0, q1, q2, q3⟩ := q
  exact ⟨q0, q1, q2, q3.moved (u := U) (U := U.calling g mk a) (Vm.Alike.refl U.vm)⟩
theorem kcell {v : Int32} (hA : ∀ q, s.heap.size ≤ q → A0 q) (hW : W2 D dA x h1 h2 σ1 σ2 A0 H) (hS : va_S A0 s.heap H locs) (hr : va_Run p l e R s m args below meth c H locs cells slots 0 0 (F0 m pc ls st0) rest (va_Qi (fun (z : Int32) (_ : Unit) => z = v) (fun _ _ => True) (fun q => H.size ≤ q) a) (fun q => H.size ≤ q))
    (kk : ∀ (H1 : Heap) (locs1 : List Loc), W2 D dA x h1 h2 σ1 σ2 A0 H1 → va_S A0 s.heap H1 locs1 → W p l e R s m args below meth c H1 locs1 cells slots Q (F0 m (pc + 3) ls (.int v :: rest))) : W p l e R s m args below meth c H locs cells slots Q (F0 m pc ls st0) :=
  va_calli hr hS (fun q _ h => hA q (Nat.le_trans hS.1 h)) (fun q h => hA q (Nat.le_trans hS.1 h)) (fun r u t H1 locs1 ht hvm hw hB hz hk hS1 => by
    subst hw
    obtain ⟨ad1, ad2, e1, e2, e3, e4, e5⟩ := hW
    have hk : ∀ q : Nat, q < H.size → H1[q]? = H[q]? := fun q h => hk q h (by show ¬ H.size ≤ q; omega)
    exact kk H1 locs1 ⟨ad1, ad2, e1, e2, WW_grow e3 hk, WW_grow e4 hk, e5⟩ hS1)
end CEL
set_option maxHeartbeats 4000000 in
set_option maxRecDepth 100000 in
theorem wL_law_J489 {p : Program} {l : Launch} {e : Env} {s : State} {m : MethodId} {args : Array Value} {below : List Frame} {meth : Method} {c : Code} {D : va_G} {dA : Nat → ClassId} {A0 : Nat → Prop} {x mi mc ms h1 h2 : Nat} {r : Int32} {σ1' σ2' : St} {b L : Nat} {xs : Nat → Int32} {Q : State → Prop} {k : St → St → Int32 → Int32 → Int32 → Option ((Int32 × St × St) × Nat × Nat)} (hC : CTX p s m args meth c code 14 RL ret) (hK : KS D dA s) (hA : ∀ q, s.heap.size ≤ q → A0 q) (hX : EXT x mi A0 s s.heap) (hst : l.stackTraces = false) (hXS : va_X b L xs s s.heap) (hbl : b < s.heap.size) (hbA : ¬ A0 b) (hL : L ≤ 260) (hcc : mc ≤ room_1.cells) (hss : ms ≤ room_1.slots) (hret : ∀ (H : Heap) (locs : List Loc) (ls : Array Slot) (c1 s1 : Nat), va_S A0 s.heap H locs → c1 ≤ mc → s1 ≤ ms → W p l e room_1 s m args below meth c H locs c1 s1 Q (F0 m 521 ls [.int r])) (ih : ∀ (H : Heap) (locs : List Loc) (ls : Array Slot) (c0 s0 mr sr : Nat) (σ1 σ2 : St) (v3 : Int32) (v4 : Int32) (v5 : Int32), mc = c0 + mr → ms = s0 + sr → W2 D dA x h1 h2 σ1 σ2 A0 H → va_S A0 s.heap H locs → lv_has ls 14 [(0, .ref b), (1, .ref h1), (2, .ref h2), (3, .int v3), (4, .int v4), (5, .int v5)] → k σ1 σ2 v3 v4 v5 = some ((r, σ1', σ2'), mr, sr) → W p l e room_1 s m args below meth c H locs c0 s0 Q (F0 m 50 ls [])) : ∀ (H : Heap) (locs : List Loc) (ls : Array Slot) (c0 s0 mr sr : Nat) (σ1 σ2 : St) (v3 : Int32) (v4 : Int32) (v5 : Int32) (t0 : Int32), mc = c0 + mr → ms = s0 + sr → W2 D dA x h1 h2 σ1 σ2 A0 H → va_S A0 s.heap H locs → lv_has ls 14 [(0, .ref b), (1, .ref h1), (2, .ref h2), (3, .int v3), (4, .int v4), (5, .int v5)] → fL_law_J489 L xs k σ1 σ2 v3 v4 v5 t0 = some ((r, σ1', σ2'), mr, sr) → W p l e room_1 s m args below meth c H locs c0 s0 Q (F0 m 489 ls [.int t0]) := by
  obtain ⟨hx, hb, hml, hown, hts, hr, hlk⟩ := id hC
  intro H locs ls c0 s0 mr sr σ1 σ2 v3 v4 v5 t0 hm hn hW hS hl hf
  unfold fL_law_J489 at hf
  refine lv_istore (lv' := [(4, .int t0), (0, .ref b), (1, .ref h1), (2, .ref h2), (3, .int v3), (5, .int v5)]) hx hb dL_law_489 hl (by decide) rfl (fun ls hl => ?_)
  obtain ⟨x64, hx64⟩ : ∃ y : Int32, y = v5 + 1 := ⟨_, rfl⟩
  have hf := kst_eq hx64 hf
  refine lv_iinc (v := x64) (lv' := [(5, .int x64), (4, .int t0), (0, .ref b), (1, .ref h1), (2, .ref h2), (3, .int v3)]) hx hb dL_law_491 hl (k := 5) rfl (by rw [hx64]; rfl) (by decide) rfl (fun ls hl => ?_)
  refine lv_goto (tgt := 50) hx hb dL_law_494 (by decide) ?_
  exact ih _ _ _ _ _ _ _ σ1 σ2 v3 t0 x64 hm hn hW hS (lv_sub hl [2, 3, 4, 5, 1, 0] rfl) hf
set_option maxHeartbeats 4000000 in
set_option maxRecDepth 100000 in
theorem wL_law_J442 {p : Program} {l : Launch} {e : Env} {s : State} {m : MethodId} {args : Array Value} {below : List Frame} {meth : Method} {c : Code} {D : va_G} {dA : Nat → ClassId} {A0 : Nat → Prop} {x mi mc ms h1 h2 : Nat} {r : Int32} {σ1' σ2' : St} {b L : Nat} {xs : Nat → Int32} {Q : State → Prop} {k : St → St → Int32 → Int32 → Int32 → Option ((Int32 × St × St) × Nat × Nat)} (hC : CTX p s m args meth c code 14 RL ret) (hK : KS D dA s) (hA : ∀ q, s.heap.size ≤ q → A0 q) (hX : EXT x mi A0 s s.heap) (hst : l.stackTraces = false) (hXS : va_X b L xs s s.heap) (hbl : b < s.heap.size) (hbA : ¬ A0 b) (hL : L ≤ 260) (hcc : mc ≤ room_1.cells) (hss : ms ≤ room_1.slots) (hret : ∀ (H : Heap) (locs : List Loc) (ls : Array Slot) (c1 s1 : Nat), va_S A0 s.heap H locs → c1 ≤ mc → s1 ≤ ms → W p l e room_1 s m args below meth c H locs c1 s1 Q (F0 m 521 ls [.int r])) (ih : ∀ (H : Heap) (locs : List Loc) (ls : Array Slot) (c0 s0 mr sr : Nat) (σ1 σ2 : St) (v3 : Int32) (v4 : Int32) (v5 : Int32), mc = c0 + mr → ms = s0 + sr → W2 D dA x h1 h2 σ1 σ2 A0 H → va_S A0 s.heap H locs → lv_has ls 14 [(0, .ref b), (1, .ref h1), (2, .ref h2), (3, .int v3), (4, .int v4), (5, .int v5)] → k σ1 σ2 v3 v4 v5 = some ((r, σ1', σ2'), mr, sr) → W p l e room_1 s m args below meth c H locs c0 s0 Q (F0 m 50 ls [])) : ∀ (H : Heap) (locs : List Loc) (ls : Array Slot) (c0 s0 mr sr : Nat) (σ1 σ2 : St) (v3 : Int32) (v4 : Int32) (v5 : Int32), mc = c0 + mr → ms = s0 + sr → W2 D dA x h1 h2 σ1 σ2 A0 H → va_S A0 s.heap H locs → lv_has ls 14 [(0, .ref b), (1, .ref h1), (2, .ref h2), (3, .int v3), (4, .int v4), (5, .int v5)] → fL_law_J442 L xs k σ1 σ2 v3 v4 v5 = some ((r, σ1', σ2'), mr, sr) → W p l e room_1 s m args below meth c H locs c0 s0 Q (F0 m 442 ls []) := by
  obtain ⟨hx, hb, hml, hown, hts, hr, hlk⟩ := id hC
  intro H locs ls c0 s0 mr sr σ1 σ2 v3 v4 v5 hm hn hW hS hl hf
  unfold fL_law_J442 at hf
  refine lv_iload hx hb dL_law_442 (lv_at hl 4 rfl) ?_
  refine lv_if_eq (tgt := 488) hx hb dL_law_444 (by decide) (fun c63 => ?_) (fun c63 => ?_)
  · have hf := if_of_pos hf c63
    refine lv_iconst (v := 0) hx hb dL_law_488 (by decide) ?_
    exact wL_law_J489 hC hK hA hX hst hXS hbl hbA hL hcc hss hret ih _ _ _ _ _ _ _ σ1 σ2 v3 v4 v5 0 hm hn hW hS (lv_sub hl [0, 1, 2, 3, 4, 5] rfl) hf
  · have hf := if_of_neg hf c63
    refine lv_iload hx hb dL_law_447 (lv_at hl 5 rfl) ?_
    refine lv_iconst (v := 4) hx hb dL_law_449 (by decide) ?_
    refine lv_irem hx hb dL_law_450 (by decide) ?_
    refine lv_if_gt (tgt := 468) hx hb dL_law_451 (by decide) (fun c66 => ?_) (fun c66 => ?_)
    · have hf := if_of_pos hf c66
      refine lv_iload hx hb dL_law_468 (lv_at hl 5 rfl) ?_
      refine lv_bipush (v := 24) hx hb dL_law_470 (by decide) ?_
      refine lv_irem hx hb dL_law_472 (by decide) ?_
      refine lv_if_gt (tgt := 484) hx hb dL_law_473 (by decide) (fun c68 => ?_) (fun c68 => ?_)
      · have hf := if_of_pos hf c68
        refine lv_iconst (v := 1) hx hb dL_law_484 (by decide) ?_
        refine lv_goto (tgt := 489) hx hb dL_law_485 (by decide) ?_
        exact wL_law_J489 hC hK hA hX hst hXS hbl hbA hL hcc hss hret ih _ _ _ _ _ _ _ σ1 σ2 v3 v4 v5 1 hm hn hW hS (lv_sub hl [0, 1, 2, 3, 4, 5] rfl) hf
      · have hf := if_of_neg hf c68
        refine lv_aload_n hx hb dL_law_476 rfl (lv_at hl 1 rfl) ?_
        refine lv_iload_n hx hb dL_law_477 rfl (lv_at hl 3 rfl) ?_
        obtain ⟨q69, m70, n71, m72, n73, hcq69, hf, hem, hen⟩ := bt2_of hf
        refine kdA_i (X := [13, 15]) (rest := []) (r := q69.1) (σ' := q69.2) (by decide) hA hW hS (fun ad g0 hR hLX => by subst g0; exact ⟨_, va_runS (As := [.ref (ad 0 0), .int v3]) ⟨hx, hb, hml, hown, hts⟩ (mL_refused l hst D dA ad σ1 _ x mi v3 q69.1 q69.2 m70 n71 hcq69) (va_cwS 2 hts gL_158 rfl rfl rfl (by decide +kernel) ⟨Nat.le_of_ble_eq_true rfl, Nat.le_of_ble_eq_true rfl⟩) (preSA_of hA hR hS hK hX hLX _) rfl rfl hl.1 rfl (lv_room (Nat.le_of_ble_eq_true rfl)) dL_law_478 ⟨Nat.le_trans (nle hm hem) hcc, Nat.le_trans (nle hn hen) hss⟩⟩) (fun H locs hW hS => ?_)
        have hm := nadd hm hem
        have hn := nadd hn hen
        refine lv_if_eq (tgt := 488) hx hb dL_law_481 (by decide) (fun c74 => ?_) (fun c74 => ?_)
        · have hf := if_of_pos hf c74
          refine lv_iconst (v := 0) hx hb dL_law_488 (by decide) ?_
          exact wL_law_J489 hC hK hA hX hst hXS hbl hbA hL hcc hss hret ih _ _ _ _ _ _ _ q69.2 σ2 v3 v4 v5 0 hm hn hW hS (lv_sub hl [0, 1, 2, 3, 4, 5] rfl) hf
        · have hf := if_of_neg hf c74
          refine lv_iconst (v := 1) hx hb dL_law_484 (by decide) ?_
          refine lv_goto (tgt := 489) hx hb dL_law_485 (by decide) ?_
          exact wL_law_J489 hC hK hA hX hst hXS hbl hbA hL hcc hss hret ih _ _ _ _ _ _ _ q69.2 σ2 v3 v4 v5 1 hm hn hW hS (lv_sub hl [0, 1, 2, 3, 4, 5] rfl) hf
    · have hf := if_of_neg hf c66
      refine lv_aload_n hx hb dL_law_454 rfl (lv_at hl 1 rfl) ?_
      refine lv_iload_n hx hb dL_law_455 rfl (lv_at hl 3 rfl) ?_
      obtain ⟨q75, m76, n77, m78, n79, hcq75, hf, hem, hen⟩ := bt2_of hf
      refine kdA_l (X := [13, 15]) (rest := []) (r := q75.1) (σ' := q75.2) (by decide) hA hW hS (fun ad g0 hR hLX => by subst g0; exact ⟨_, va_runS (As := [.ref (ad 0 0), .int v3]) ⟨hx, hb, hml, hown, hts⟩ (mL_all l hst D dA ad σ1 _ x mi v3 q75.1 q75.2 m76 n77 hcq75) (va_cwS 2 hts gL_135 rfl rfl rfl (by decide +kernel) ⟨Nat.le_of_ble_eq_true rfl, Nat.le_of_ble_eq_true rfl⟩) (preSA_of hA hR hS hK hX hLX _) rfl rfl hl.1 rfl (lv_room (Nat.le_of_ble_eq_true rfl)) dL_law_456 ⟨Nat.le_trans (nle hm hem) hcc, Nat.le_trans (nle hn hen) hss⟩⟩) (fun H locs hW hS => ?_)
      have hm := nadd hm hem
      have hn := nadd hn hen
      refine lv_aload_n hx hb dL_law_459 rfl (lv_at hl 2 rfl) ?_
      refine lv_iload_n hx hb dL_law_460 rfl (lv_at hl 3 rfl) ?_
      obtain ⟨q80, m81, n82, m83, n84, hcq80, hf, hem, hen⟩ := bt2_of hf
      refine kdA_l (X := [13, 15]) (rest := [.long q75.1]) (r := q80.1) (σ' := q80.2) (by decide) hA (W2_swap hW) hS (fun ad g0 hR hLX => by subst g0; exact ⟨_, va_runS (As := [.ref (ad 0 0), .int v3]) ⟨hx, hb, hml, hown, hts⟩ (mL_all l hst D dA ad σ2 _ x mi v3 q80.1 q80.2 m81 n82 hcq80) (va_cwS 2 hts gL_135 rfl rfl rfl (by decide +kernel) ⟨Nat.le_of_ble_eq_true rfl, Nat.le_of_ble_eq_true rfl⟩) (preSA_of hA hR hS hK hX hLX _) rfl rfl hl.1 rfl (lv_room (Nat.le_of_ble_eq_true rfl)) dL_law_461 ⟨Nat.le_trans (nle hm hem) hcc, Nat.le_trans (nle hn hen) hss⟩⟩) (fun H locs hW hS => ?_)
      have hW := W2_swap hW
      have hm := nadd hm hem
      have hn := nadd hn hen
      refine W.lcmp hx hb dL_law_464 ?_
      refine lv_if_ne (tgt := 488) hx hb dL_law_465 (by decide) (fun c850 => ?_) (fun c850 => ?_)
      · have c85 : ¬ q75.1 = q80.1 := fun q => c850 ((lg_cmp_eq _ _).mpr q)
        have hf := if_of_pos hf c85
        refine lv_iconst (v := 0) hx hb dL_law_488 (by decide) ?_
        exact wL_law_J489 hC hK hA hX hst hXS hbl hbA hL hcc hss hret ih _ _ _ _ _ _ _ q75.2 q80.2 v3 v4 v5 0 hm hn hW hS (lv_sub hl [0, 1, 2, 3, 4, 5] rfl) hf
      · have c85 : ¬ ¬ q75.1 = q80.1 := fun q => q ((lg_cmp_eq _ _).mp c850)
        have hf := if_of_neg hf c85
        refine lv_iload hx hb dL_law_468 (lv_at hl 5 rfl) ?_
        refine lv_bipush (v := 24) hx hb dL_law_470 (by decide) ?_
        refine lv_irem hx hb dL_law_472 (by decide) ?_
        refine lv_if_gt (tgt := 484) hx hb dL_law_473 (by decide) (fun c87 => ?_) (fun c87 => ?_)
        · have hf := if_of_pos hf c87
          refine lv_iconst (v := 1) hx hb dL_law_484 (by decide) ?_
          refine lv_goto (tgt := 489) hx hb dL_law_485 (by decide) ?_
          exact wL_law_J489 hC hK hA hX hst hXS hbl hbA hL hcc hss hret ih _ _ _ _ _ _ _ q75.2 q80.2 v3 v4 v5 1 hm hn hW hS (lv_sub hl [0, 1, 2, 3, 4, 5] rfl) hf
        · have hf := if_of_neg hf c87
          refine lv_aload_n hx hb dL_law_476 rfl (lv_at hl 1 rfl) ?_
          refine lv_iload_n hx hb dL_law_477 rfl (lv_at hl 3 rfl) ?_
          obtain ⟨q88, m89, n90, m91, n92, hcq88, hf, hem, hen⟩ := bt2_of hf
          refine kdA_i (X := [13, 15]) (rest := []) (r := q88.1) (σ' := q88.2) (by decide) hA hW hS (fun ad g0 hR hLX => by subst g0; exact ⟨_, va_runS (As := [.ref (ad 0 0), .int v3]) ⟨hx, hb, hml, hown, hts⟩ (mL_refused l hst D dA ad q75.2 _ x mi v3 q88.1 q88.2 m89 n90 hcq88) (va_cwS 2 hts gL_158 rfl rfl rfl (by decide +kernel) ⟨Nat.le_of_ble_eq_true rfl, Nat.le_of_ble_eq_true rfl⟩) (preSA_of hA hR hS hK hX hLX _) rfl rfl hl.1 rfl (lv_room (Nat.le_of_ble_eq_true rfl)) dL_law_478 ⟨Nat.le_trans (nle hm hem) hcc, Nat.le_trans (nle hn hen) hss⟩⟩) (fun H locs hW hS => ?_)
          have hm := nadd hm hem
          have hn := nadd hn hen
          refine lv_if_eq (tgt := 488) hx hb dL_law_481 (by decide) (fun c93 => ?_) (fun c93 => ?_)
          · have hf := if_of_pos hf c93
            refine lv_iconst (v := 0) hx hb dL_law_488 (by decide) ?_
            exact wL_law_J489 hC hK hA hX hst hXS hbl hbA hL hcc hss hret ih _ _ _ _ _ _ _ q88.2 q80.2 v3 v4 v5 0 hm hn hW hS (lv_sub hl [0, 1, 2, 3, 4, 5] rfl) hf
          · have hf := if_of_neg hf c93
            refine lv_iconst (v := 1) hx hb dL_law_484 (by decide) ?_
            refine lv_goto (tgt := 489) hx hb dL_law_485 (by decide) ?_
            exact wL_law_J489 hC hK hA hX hst hXS hbl hbA hL hcc hss hret ih _ _ _ _ _ _ _ q88.2 q80.2 v3 v4 v5 1 hm hn hW hS (lv_sub hl [0, 1, 2, 3, 4, 5] rfl) hf
set_option maxHeartbeats 4000000 in
set_option maxRecDepth 100000 in
theorem wL_law_J413 {p : Program} {l : Launch} {e : Env} {s : State} {m : MethodId} {args : Array Value} {below : List Frame} {meth : Method} {c : Code} {D : va_G} {dA : Nat → ClassId} {A0 : Nat → Prop} {x mi mc ms h1 h2 : Nat} {r : Int32} {σ1' σ2' : St} {b L : Nat} {xs : Nat → Int32} {Q : State → Prop} {k : St → St → Int32 → Int32 → Int32 → Option ((Int32 × St × St) × Nat × Nat)} (hC : CTX p s m args meth c code 14 RL ret) (hK : KS D dA s) (hA : ∀ q, s.heap.size ≤ q → A0 q) (hX : EXT x mi A0 s s.heap) (hst : l.stackTraces = false) (hXS : va_X b L xs s s.heap) (hbl : b < s.heap.size) (hbA : ¬ A0 b) (hL : L ≤ 260) (hcc : mc ≤ room_1.cells) (hss : ms ≤ room_1.slots) (hret : ∀ (H : Heap) (locs : List Loc) (ls : Array Slot) (c1 s1 : Nat), va_S A0 s.heap H locs → c1 ≤ mc → s1 ≤ ms → W p l e room_1 s m args below meth c H locs c1 s1 Q (F0 m 521 ls [.int r])) (ih : ∀ (H : Heap) (locs : List Loc) (ls : Array Slot) (c0 s0 mr sr : Nat) (σ1 σ2 : St) (v3 : Int32) (v4 : Int32) (v5 : Int32), mc = c0 + mr → ms = s0 + sr → W2 D dA x h1 h2 σ1 σ2 A0 H → va_S A0 s.heap H locs → lv_has ls 14 [(0, .ref b), (1, .ref h1), (2, .ref h2), (3, .int v3), (4, .int v4), (5, .int v5)] → k σ1 σ2 v3 v4 v5 = some ((r, σ1', σ2'), mr, sr) → W p l e room_1 s m args below meth c H locs c0 s0 Q (F0 m 50 ls [])) : ∀ (H : Heap) (locs : List Loc) (ls : Array Slot) (c0 s0 mr sr : Nat) (σ1 σ2 : St) (v3 : Int32) (v4 : Int32) (v5 : Int32) (t0 : Int32), mc = c0 + mr → ms = s0 + sr → W2 D dA x h1 h2 σ1 σ2 A0 H → va_S A0 s.heap H locs → lv_has ls 14 [(0, .ref b), (1, .ref h1), (2, .ref h2), (3, .int v3), (4, .int v4), (5, .int v5)] → fL_law_J413 L xs k σ1 σ2 v3 v4 v5 t0 = some ((r, σ1', σ2'), mr, sr) → W p l e room_1 s m args below meth c H locs c0 s0 Q (F0 m 413 ls [.int t0]) := by
  obtain ⟨hx, hb, hml, hown, hts, hr, hlk⟩ := id hC
  intro H locs ls c0 s0 mr sr σ1 σ2 v3 v4 v5 t0 hm hn hW hS hl hf
  unfold fL_law_J413 at hf
  refine lv_istore (lv' := [(4, .int t0), (0, .ref b), (1, .ref h1), (2, .ref h2), (3, .int v3), (5, .int v5)]) hx hb dL_law_413 hl (by decide) rfl (fun ls hl => ?_)
  refine lv_goto (tgt := 442) hx hb dL_law_415 (by decide) ?_
  exact wL_law_J442 hC hK hA hX hst hXS hbl hbA hL hcc hss hret ih _ _ _ _ _ _ _ σ1 σ2 v3 t0 v5 hm hn hW hS (lv_sub hl [1, 2, 3, 4, 0, 5] rfl) hf
set_option maxHeartbeats 4000000 in
set_option maxRecDepth 100000 in
theorem wL_law_J319 {p : Program} {l : Launch} {e : Env} {s : State} {m : MethodId} {args : Array Value} {below : List Frame} {meth : Method} {c : Code} {D : va_G} {dA : Nat → ClassId} {A0 : Nat → Prop} {x mi mc ms h1 h2 : Nat} {r : Int32} {σ1' σ2' : St} {b L : Nat} {xs : Nat → Int32} {Q : State → Prop} {k : St → St → Int32 → Int32 → Int32 → Option ((Int32 × St × St) × Nat × Nat)} (hC : CTX p s m args meth c code 14 RL ret) (hK : KS D dA s) (hA : ∀ q, s.heap.size ≤ q → A0 q) (hX : EXT x mi A0 s s.heap) (hst : l.stackTraces = false) (hXS : va_X b L xs s s.heap) (hbl : b < s.heap.size) (hbA : ¬ A0 b) (hL : L ≤ 260) (hcc : mc ≤ room_1.cells) (hss : ms ≤ room_1.slots) (hret : ∀ (H : Heap) (locs : List Loc) (ls : Array Slot) (c1 s1 : Nat), va_S A0 s.heap H locs → c1 ≤ mc → s1 ≤ ms → W p l e room_1 s m args below meth c H locs c1 s1 Q (F0 m 521 ls [.int r])) (ih : ∀ (H : Heap) (locs : List Loc) (ls : Array Slot) (c0 s0 mr sr : Nat) (σ1 σ2 : St) (v3 : Int32) (v4 : Int32) (v5 : Int32), mc = c0 + mr → ms = s0 + sr → W2 D dA x h1 h2 σ1 σ2 A0 H → va_S A0 s.heap H locs → lv_has ls 14 [(0, .ref b), (1, .ref h1), (2, .ref h2), (3, .int v3), (4, .int v4), (5, .int v5)] → k σ1 σ2 v3 v4 v5 = some ((r, σ1', σ2'), mr, sr) → W p l e room_1 s m args below meth c H locs c0 s0 Q (F0 m 50 ls [])) : ∀ (H : Heap) (locs : List Loc) (ls : Array Slot) (c0 s0 mr sr : Nat) (σ1 σ2 : St) (v3 : Int32) (v4 : Int32) (v5 : Int32) (v7 : Int32) (t0 : Int32), mc = c0 + mr → ms = s0 + sr → W2 D dA x h1 h2 σ1 σ2 A0 H → va_S A0 s.heap H locs → lv_has ls 14 [(0, .ref b), (1, .ref h1), (2, .ref h2), (3, .int v3), (4, .int v4), (5, .int v5), (7, .int v7)] → fL_law_J319 L xs k σ1 σ2 v3 v4 v5 v7 t0 = some ((r, σ1', σ2'), mr, sr) → W p l e room_1 s m args below meth c H locs c0 s0 Q (F0 m 319 ls [.int t0]) := by
  obtain ⟨hx, hb, hml, hown, hts, hr, hlk⟩ := id hC
  intro H locs ls c0 s0 mr sr σ1 σ2 v3 v4 v5 v7 t0 hm hn hW hS hl hf
  unfold fL_law_J319 at hf
  refine lv_istore (lv' := [(9, .int t0), (0, .ref b), (1, .ref h1), (2, .ref h2), (3, .int v3), (4, .int v4), (5, .int v5), (7, .int v7)]) hx hb dL_law_319 hl (by decide) rfl (fun ls hl => ?_)
  refine lv_iload hx hb dL_law_321 (lv_at hl 7 rfl) ?_
  refine lv_iconst (v := 3) hx hb dL_law_323 (by decide) ?_
  refine lv_ishr hx hb dL_law_324 ?_
  refine lv_iconst (v := 3) hx hb dL_law_325 (by decide) ?_
  obtain ⟨q105, hcq105, hf⟩ := bd_of hf
  refine kdP_i (rest := []) (r := q105) (σ' := σ1) ⟨rfl, rfl, rfl, rfl, rfl, rfl, rfl⟩ hA hW hS (fun ad g0 hR => by subst g0; exact ⟨_, va_runS (As := [.int (v7 >>> (3 &&& 31)), .int 3]) ⟨hx, hb, hml, hown, hts⟩ (mL_some l D dA ad σ1 _ (v7 >>> (3 &&& 31)) 3 q105 hcq105) (va_cwS 2 hts gL_128 rfl rfl rfl (by decide +kernel) ⟨Nat.le_of_ble_eq_true rfl, Nat.le_of_ble_eq_true rfl⟩) (preS_of hR hK _) rfl rfl hl.1 rfl (lv_room (Nat.le_of_ble_eq_true rfl)) dL_law_326 ⟨Nat.le_trans (nle0 hm) hcc, Nat.le_trans (nle0 hn) hss⟩⟩) (fun H locs hW hS => ?_)
  refine lv_istore (lv' := [(10, .int q105), (9, .int t0), (0, .ref b), (1, .ref h1), (2, .ref h2), (3, .int v3), (4, .int v4), (5, .int v5), (7, .int v7)]) hx hb dL_law_329 hl (by decide) rfl (fun ls hl => ?_)
  refine lv_aload_n hx hb dL_law_331 rfl (lv_at hl 3 rfl) ?_
  refine lv_aload_n hx hb dL_law_332 rfl (lv_at hl 4 rfl) ?_
  refine lv_bipush (v := 8) hx hb dL_law_333 (by decide) ?_
  refine lv_iload hx hb dL_law_335 (lv_at hl 0 rfl) ?_
  refine lv_iload hx hb dL_law_337 (lv_at hl 1 rfl) ?_
  refine lv_iconst (v := 0) hx hb dL_law_339 (by decide) ?_
  obtain ⟨q110, m111, n112, m113, n114, hcq110, hf, hem, hen⟩ := bt2_of hf
  refine kdD_i (rest := []) hS (va_runS (As := [.ref h1, .ref h2, .int 8, .int q105, .int t0, .int 0]) ⟨hx, hb, hml, hown, hts⟩ (mL_both l hst D dA x mi h1 h2 σ1 σ2 A0 _ 8 q105 t0 0 q110.1 q110.2.1 q110.2.2 m111 n112 hcq110) (va_cwS 6 hts gL_131 rfl rfl rfl (by decide +kernel) ⟨Nat.le_of_ble_eq_true rfl, Nat.le_of_ble_eq_true rfl⟩) (preD_of hA hW hS hK hX _) rfl rfl hl.1 rfl (lv_room (Nat.le_of_ble_eq_true rfl)) dL_law_340 ⟨Nat.le_trans (nle hm hem) hcc, Nat.le_trans (nle hn hen) hss⟩) (fun H locs hW hS => ?_)
  have hm := nadd hm hem
  have hn := nadd hn hen
  refine lv_istore (lv' := [(11, .int q110.1), (10, .int q105), (9, .int t0), (0, .ref b), (1, .ref h1), (2, .ref h2), (3, .int v3), (4, .int v4), (5, .int v5), (7, .int v7)]) hx hb dL_law_343 hl (by decide) rfl (fun ls hl => ?_)
  refine lv_iload hx hb dL_law_345 (lv_at hl 0 rfl) ?_
  refine lv_if_lt (tgt := 412) hx hb dL_law_347 (by decide) (fun c115 => ?_) (fun c115 => ?_)
  · have hf := if_of_pos hf c115
    refine lv_iconst (v := 0) hx hb dL_law_412 (by decide) ?_
    exact wL_law_J413 hC hK hA hX hst hXS hbl hbA hL hcc hss hret ih _ _ _ _ _ _ _ q110.2.1 q110.2.2 v3 v4 v5 0 hm hn hW hS (lv_sub hl [3, 4, 5, 6, 7, 8] rfl) hf
  · have hf := if_of_neg hf c115
    refine lv_iload hx hb dL_law_350 (lv_at hl 2 rfl) ?_
    refine lv_iconst (v := 1) hx hb dL_law_352 (by decide) ?_
    refine lv_icmp_ne (tgt := 403) hx hb dL_law_353 (by decide) (fun c116 => ?_) (fun c116 => ?_)
    · have hf := if_of_pos hf c116
      refine lv_iload hx hb dL_law_403 (lv_at hl 0 rfl) ?_
      refine lv_if_ne (tgt := 412) hx hb dL_law_405 (by decide) (fun c117 => ?_) (fun c117 => ?_)
      · have hf := if_of_pos hf c117
        refine lv_iconst (v := 0) hx hb dL_law_412 (by decide) ?_
        exact wL_law_J413 hC hK hA hX hst hXS hbl hbA hL hcc hss hret ih _ _ _ _ _ _ _ q110.2.1 q110.2.2 v3 v4 v5 0 hm hn hW hS (lv_sub hl [3, 4, 5, 6, 7, 8] rfl) hf
      · have hf := if_of_neg hf (fun q => q c117)
        refine lv_iconst (v := 1) hx hb dL_law_408 (by decide) ?_
        refine lv_goto (tgt := 413) hx hb dL_law_409 (by decide) ?_
        exact wL_law_J413 hC hK hA hX hst hXS hbl hbA hL hcc hss hret ih _ _ _ _ _ _ _ q110.2.1 q110.2.2 v3 v4 v5 1 hm hn hW hS (lv_sub hl [3, 4, 5, 6, 7, 8] rfl) hf
    · have hf := if_of_neg hf (fun q => q c116)
      refine lv_aload_n hx hb dL_law_356 rfl (lv_at hl 4 rfl) ?_
      refine lv_bipush (v := 10) hx hb dL_law_357 (by decide) ?_
      refine lv_iload hx hb dL_law_359 (lv_at hl 1 rfl) ?_
      refine lv_iconst (v := 0) hx hb dL_law_361 (by decide) ?_
      refine lv_iconst (v := 0) hx hb dL_law_362 (by decide) ?_
      obtain ⟨q118, m119, n120, m121, n122, hcq118, hf, hem, hen⟩ := bt2_of hf
      refine kdA_i (X := [13, 15]) (rest := []) (r := q118.1) (σ' := q118.2) (by decide) hA hW hS (fun ad g0 hR hLX => by subst g0; exact ⟨_, vx_runSW (As := [.ref (ad 0 0), .int 10, .int q105, .int 0, .int 0]) ⟨hx, hb, hml, hown, hts⟩ (mL_call l hst D dA ad q110.2.1 _ x mi 10 q105 0 0 q118.1 q118.2 m119 n120 hcq118) (vx_cwSW 5 hts gL_120 rfl rfl rfl (by decide +kernel) ⟨Nat.le_of_ble_eq_true rfl, Nat.le_of_ble_eq_true rfl⟩) (preSA_of hA hR hS hK hX hLX _) rfl rfl hl.1 rfl (lv_room (Nat.le_of_ble_eq_true rfl)) dL_law_363 ⟨Nat.le_trans (nle hm hem) hcc, Nat.le_trans (nle hn hen) hss⟩⟩) (fun H locs hW hS => ?_)
      have hm := nadd hm hem
      have hn := nadd hn hen
      refine lv_ldc (v := (-2000000004)) hx hb hown (hts _ q_638) dL_law_366 ?_
      refine lv_icmp_ne (tgt := 412) hx hb dL_law_368 (by decide) (fun c123 => ?_) (fun c123 => ?_)
      · have hf := if_of_pos hf c123
        refine lv_iconst (v := 0) hx hb dL_law_412 (by decide) ?_
        exact wL_law_J413 hC hK hA hX hst hXS hbl hbA hL hcc hss hret ih _ _ _ _ _ _ _ q118.2 q110.2.2 v3 v4 v5 0 hm hn hW hS (lv_sub hl [3, 4, 5, 6, 7, 8] rfl) hf
      · have hf := if_of_neg hf (fun q => q c123)
        refine lv_aload_n hx hb dL_law_371 rfl (lv_at hl 4 rfl) ?_
        refine lv_bipush (v := 10) hx hb dL_law_372 (by decide) ?_
        refine lv_iload hx hb dL_law_374 (lv_at hl 1 rfl) ?_
        refine lv_iconst (v := 1) hx hb dL_law_376 (by decide) ?_
        refine lv_iconst (v := 0) hx hb dL_law_377 (by decide) ?_
        obtain ⟨q124, m125, n126, m127, n128, hcq124, hf, hem, hen⟩ := bt2_of hf
        refine kdA_i (X := [13, 15]) (rest := []) (r := q124.1) (σ' := q124.2) (by decide) hA hW hS (fun ad g0 hR hLX => by subst g0; exact ⟨_, vx_runSW (As := [.ref (ad 0 0), .int 10, .int q105, .int 1, .int 0]) ⟨hx, hb, hml, hown, hts⟩ (mL_call l hst D dA ad q118.2 _ x mi 10 q105 1 0 q124.1 q124.2 m125 n126 hcq124) (vx_cwSW 5 hts gL_120 rfl rfl rfl (by decide +kernel) ⟨Nat.le_of_ble_eq_true rfl, Nat.le_of_ble_eq_true rfl⟩) (preSA_of hA hR hS hK hX hLX _) rfl rfl hl.1 rfl (lv_room (Nat.le_of_ble_eq_true rfl)) dL_law_378 ⟨Nat.le_trans (nle hm hem) hcc, Nat.le_trans (nle hn hen) hss⟩⟩) (fun H locs hW hS => ?_)
        have hm := nadd hm hem
        have hn := nadd hn hen
        refine lv_ldc (v := (-2000000004)) hx hb hown (hts _ q_638) dL_law_381 ?_
        refine lv_icmp_ne (tgt := 412) hx hb dL_law_383 (by decide) (fun c129 => ?_) (fun c129 => ?_)
        · have hf := if_of_pos hf c129
          refine lv_iconst (v := 0) hx hb dL_law_412 (by decide) ?_
          exact wL_law_J413 hC hK hA hX hst hXS hbl hbA hL hcc hss hret ih _ _ _ _ _ _ _ q124.2 q110.2.2 v3 v4 v5 0 hm hn hW hS (lv_sub hl [3, 4, 5, 6, 7, 8] rfl) hf
        · have hf := if_of_neg hf (fun q => q c129)
          refine lv_aload_n hx hb dL_law_386 rfl (lv_at hl 4 rfl) ?_
          refine lv_aload_n hx hb dL_law_387 rfl (lv_at hl 5 rfl) ?_
          refine lv_bipush (v := 8) hx hb dL_law_388 (by decide) ?_
          refine lv_iload hx hb dL_law_390 (lv_at hl 1 rfl) ?_
          refine lv_iconst (v := 1) hx hb dL_law_392 (by decide) ?_
          refine lv_iconst (v := 0) hx hb dL_law_393 (by decide) ?_
          obtain ⟨q130, m131, n132, m133, n134, hcq130, hf, hem, hen⟩ := bt2_of hf
          refine kdD_i (rest := []) hS (va_runS (As := [.ref h1, .ref h2, .int 8, .int q105, .int 1, .int 0]) ⟨hx, hb, hml, hown, hts⟩ (mL_both l hst D dA x mi h1 h2 q124.2 q110.2.2 A0 _ 8 q105 1 0 q130.1 q130.2.1 q130.2.2 m131 n132 hcq130) (va_cwS 6 hts gL_131 rfl rfl rfl (by decide +kernel) ⟨Nat.le_of_ble_eq_true rfl, Nat.le_of_ble_eq_true rfl⟩) (preD_of hA hW hS hK hX _) rfl rfl hl.1 rfl (lv_room (Nat.le_of_ble_eq_true rfl)) dL_law_394 ⟨Nat.le_trans (nle hm hem) hcc, Nat.le_trans (nle hn hen) hss⟩) (fun H locs hW hS => ?_)
          have hm := nadd hm hem
          have hn := nadd hn hen
          refine lv_if_ne (tgt := 412) hx hb dL_law_397 (by decide) (fun c135 => ?_) (fun c135 => ?_)
          · have hf := if_of_pos hf c135
            refine lv_iconst (v := 0) hx hb dL_law_412 (by decide) ?_
            exact wL_law_J413 hC hK hA hX hst hXS hbl hbA hL hcc hss hret ih _ _ _ _ _ _ _ q130.2.1 q130.2.2 v3 v4 v5 0 hm hn hW hS (lv_sub hl [3, 4, 5, 6, 7, 8] rfl) hf
          · have hf := if_of_neg hf (fun q => q c135)
            refine lv_goto (tgt := 408) hx hb dL_law_400 (by decide) ?_
            refine lv_iconst (v := 1) hx hb dL_law_408 (by decide) ?_
            refine lv_goto (tgt := 413) hx hb dL_law_409 (by decide) ?_
            exact wL_law_J413 hC hK hA hX hst hXS hbl hbA hL hcc hss hret ih _ _ _ _ _ _ _ q130.2.1 q130.2.2 v3 v4 v5 1 hm hn hW hS (lv_sub hl [3, 4, 5, 6, 7, 8] rfl) hf
set_option maxHeartbeats 4000000 in
set_option maxRecDepth 100000 in
theorem wL_law_J293 {p : Program} {l : Launch} {e : Env} {s : State} {m : MethodId} {args : Array Value} {below : List Frame} {meth : Method} {c : Code} {D : va_G} {dA : Nat → ClassId} {A0 : Nat → Prop} {x mi mc ms h1 h2 : Nat} {r : Int32} {σ1' σ2' : St} {b L : Nat} {xs : Nat → Int32} {Q : State → Prop} {k : St → St → Int32 → Int32 → Int32 → Option ((Int32 × St × St) × Nat × Nat)} (hC : CTX p s m args meth c code 14 RL ret) (hK : KS D dA s) (hA : ∀ q, s.heap.size ≤ q → A0 q) (hX : EXT x mi A0 s s.heap) (hst : l.stackTraces = false) (hXS : va_X b L xs s s.heap) (hbl : b < s.heap.size) (hbA : ¬ A0 b) (hL : L ≤ 260) (hcc : mc ≤ room_1.cells) (hss : ms ≤ room_1.slots) (hret : ∀ (H : Heap) (locs : List Loc) (ls : Array Slot) (c1 s1 : Nat), va_S A0 s.heap H locs → c1 ≤ mc → s1 ≤ ms → W p l e room_1 s m args below meth c H locs c1 s1 Q (F0 m 521 ls [.int r])) (ih : ∀ (H : Heap) (locs : List Loc) (ls : Array Slot) (c0 s0 mr sr : Nat) (σ1 σ2 : St) (v3 : Int32) (v4 : Int32) (v5 : Int32), mc = c0 + mr → ms = s0 + sr → W2 D dA x h1 h2 σ1 σ2 A0 H → va_S A0 s.heap H locs → lv_has ls 14 [(0, .ref b), (1, .ref h1), (2, .ref h2), (3, .int v3), (4, .int v4), (5, .int v5)] → k σ1 σ2 v3 v4 v5 = some ((r, σ1', σ2'), mr, sr) → W p l e room_1 s m args below meth c H locs c0 s0 Q (F0 m 50 ls [])) : ∀ (H : Heap) (locs : List Loc) (ls : Array Slot) (c0 s0 mr sr : Nat) (σ1 σ2 : St) (v3 : Int32) (v4 : Int32) (v5 : Int32) (t0 : Int32), mc = c0 + mr → ms = s0 + sr → W2 D dA x h1 h2 σ1 σ2 A0 H → va_S A0 s.heap H locs → lv_has ls 14 [(0, .ref b), (1, .ref h1), (2, .ref h2), (3, .int v3), (4, .int v4), (5, .int v5)] → fL_law_J293 L xs k σ1 σ2 v3 v4 v5 t0 = some ((r, σ1', σ2'), mr, sr) → W p l e room_1 s m args below meth c H locs c0 s0 Q (F0 m 293 ls [.int t0]) := by
  obtain ⟨hx, hb, hml, hown, hts, hr, hlk⟩ := id hC
  intro H locs ls c0 s0 mr sr σ1 σ2 v3 v4 v5 t0 hm hn hW hS hl hf
  unfold fL_law_J293 at hf
  refine lv_istore (lv' := [(4, .int t0), (0, .ref b), (1, .ref h1), (2, .ref h2), (3, .int v3), (5, .int v5)]) hx hb dL_law_293 hl (by decide) rfl (fun ls hl => ?_)
  refine lv_goto (tgt := 442) hx hb dL_law_295 (by decide) ?_
  exact wL_law_J442 hC hK hA hX hst hXS hbl hbA hL hcc hss hret ih _ _ _ _ _ _ _ σ1 σ2 v3 t0 v5 hm hn hW hS (lv_sub hl [1, 2, 3, 4, 0, 5] rfl) hf
set_option maxHeartbeats 4000000 in
set_option maxRecDepth 100000 in
theorem wL_law_J215 {p : Program} {l : Launch} {e : Env} {s : State} {m : MethodId} {args : Array Value} {below : List Frame} {meth : Method} {c : Code} {D : va_G} {dA : Nat → ClassId} {A0 : Nat → Prop} {x mi mc ms h1 h2 : Nat} {r : Int32} {σ1' σ2' : St} {b L : Nat} {xs : Nat → Int32} {Q : State → Prop} {k : St → St → Int32 → Int32 → Int32 → Option ((Int32 × St × St) × Nat × Nat)} (hC : CTX p s m args meth c code 14 RL ret) (hK : KS D dA s) (hA : ∀ q, s.heap.size ≤ q → A0 q) (hX : EXT x mi A0 s s.heap) (hst : l.stackTraces = false) (hXS : va_X b L xs s s.heap) (hbl : b < s.heap.size) (hbA : ¬ A0 b) (hL : L ≤ 260) (hcc : mc ≤ room_1.cells) (hss : ms ≤ room_1.slots) (hret : ∀ (H : Heap) (locs : List Loc) (ls : Array Slot) (c1 s1 : Nat), va_S A0 s.heap H locs → c1 ≤ mc → s1 ≤ ms → W p l e room_1 s m args below meth c H locs c1 s1 Q (F0 m 521 ls [.int r])) (ih : ∀ (H : Heap) (locs : List Loc) (ls : Array Slot) (c0 s0 mr sr : Nat) (σ1 σ2 : St) (v3 : Int32) (v4 : Int32) (v5 : Int32), mc = c0 + mr → ms = s0 + sr → W2 D dA x h1 h2 σ1 σ2 A0 H → va_S A0 s.heap H locs → lv_has ls 14 [(0, .ref b), (1, .ref h1), (2, .ref h2), (3, .int v3), (4, .int v4), (5, .int v5)] → k σ1 σ2 v3 v4 v5 = some ((r, σ1', σ2'), mr, sr) → W p l e room_1 s m args below meth c H locs c0 s0 Q (F0 m 50 ls [])) : ∀ (H : Heap) (locs : List Loc) (ls : Array Slot) (c0 s0 mr sr : Nat) (σ1 σ2 : St) (v3 : Int32) (v4 : Int32) (v5 : Int32) (v9 : Int32) (t0 : Int32), mc = c0 + mr → ms = s0 + sr → W2 D dA x h1 h2 σ1 σ2 A0 H → va_S A0 s.heap H locs → lv_has ls 14 [(0, .ref b), (1, .ref h1), (2, .ref h2), (3, .int v3), (4, .int v4), (5, .int v5), (9, .int v9)] → fL_law_J215 L xs k σ1 σ2 v3 v4 v5 v9 t0 = some ((r, σ1', σ2'), mr, sr) → W p l e room_1 s m args below meth c H locs c0 s0 Q (F0 m 215 ls [.int t0]) := by
  obtain ⟨hx, hb, hml, hown, hts, hr, hlk⟩ := id hC
  intro H locs ls c0 s0 mr sr σ1 σ2 v3 v4 v5 v9 t0 hm hn hW hS hl hf
  unfold fL_law_J215 at hf
  refine lv_istore (lv' := [(10, .int t0), (0, .ref b), (1, .ref h1), (2, .ref h2), (3, .int v3), (4, .int v4), (5, .int v5), (9, .int v9)]) hx hb dL_law_215 hl (by decide) rfl (fun ls hl => ?_)
  refine lv_aload_n hx hb dL_law_217 rfl (lv_at hl 2 rfl) ?_
  obtain ⟨q147, m148, n149, m150, n151, hcq147, hf, hem, hen⟩ := bt2_of hf
  refine kdA_l (X := [13, 15]) (rest := []) (r := q147.1) (σ' := q147.2) (by decide) hA hW hS (fun ad g0 hR hLX => by subst g0; exact ⟨_, va_runS (As := [.ref (ad 0 0)]) ⟨hx, hb, hml, hown, hts⟩ (mL_equities l hst D dA ad σ1 _ x mi q147.1 q147.2 m148 n149 hcq147) (va_cwS 1 hts gL_139 rfl rfl rfl (by decide +kernel) ⟨Nat.le_of_ble_eq_true rfl, Nat.le_of_ble_eq_true rfl⟩) (preSA_of hA hR hS hK hX hLX _) rfl rfl hl.1 rfl (lv_room (Nat.le_of_ble_eq_true rfl)) dL_law_218 ⟨Nat.le_trans (nle hm hem) hcc, Nat.le_trans (nle hn hen) hss⟩⟩) (fun H locs hW hS => ?_)
  have hm := nadd hm hem
  have hn := nadd hn hen
  refine lv_lstore (lv' := [(11, .long q147.1), (10, .int t0), (0, .ref b), (1, .ref h1), (2, .ref h2), (3, .int v3), (4, .int v4), (5, .int v5), (9, .int v9)]) hx hb dL_law_221 hl (by decide) rfl (fun ls hl => ?_)
  refine lv_aload_n hx hb dL_law_223 rfl (lv_at hl 3 rfl) ?_
  refine lv_aload_n hx hb dL_law_224 rfl (lv_at hl 4 rfl) ?_
  refine lv_bipush (v := 7) hx hb dL_law_225 (by decide) ?_
  refine lv_iload hx hb dL_law_227 (lv_at hl 8 rfl) ?_
  refine lv_iconst (v := 0) hx hb dL_law_229 (by decide) ?_
  refine lv_iconst (v := 0) hx hb dL_law_230 (by decide) ?_
  obtain ⟨q152, m153, n154, m155, n156, hcq152, hf, hem, hen⟩ := bt2_of hf
  refine kdD_i (rest := []) hS (va_runS (As := [.ref h1, .ref h2, .int 7, .int v9, .int 0, .int 0]) ⟨hx, hb, hml, hown, hts⟩ (mL_both l hst D dA x mi h1 h2 q147.2 σ2 A0 _ 7 v9 0 0 q152.1 q152.2.1 q152.2.2 m153 n154 hcq152) (va_cwS 6 hts gL_131 rfl rfl rfl (by decide +kernel) ⟨Nat.le_of_ble_eq_true rfl, Nat.le_of_ble_eq_true rfl⟩) (preD_of hA hW hS hK hX _) rfl rfl hl.1 rfl (lv_room (Nat.le_of_ble_eq_true rfl)) dL_law_231 ⟨Nat.le_trans (nle hm hem) hcc, Nat.le_trans (nle hn hen) hss⟩) (fun H locs hW hS => ?_)
  have hm := nadd hm hem
  have hn := nadd hn hen
  refine lv_istore (lv' := [(13, .int q152.1), (11, .long q147.1), (10, .int t0), (0, .ref b), (1, .ref h1), (2, .ref h2), (3, .int v3), (4, .int v4), (5, .int v5), (9, .int v9)]) hx hb dL_law_234 hl (by decide) rfl (fun ls hl => ?_)
  refine lv_iload hx hb dL_law_236 (lv_at hl 9 rfl) ?_
  refine lv_iload_n hx hb dL_law_238 rfl (lv_at hl 6 rfl) ?_
  refine lv_icmp_ne (tgt := 252) hx hb dL_law_239 (by decide) (fun c157 => ?_) (fun c157 => ?_)
  · have hf := if_of_pos hf c157
    refine lv_iload hx hb dL_law_252 (lv_at hl 0 rfl) ?_
    refine lv_iload hx hb dL_law_254 (lv_at hl 2 rfl) ?_
    refine lv_if_ne (tgt := 264) hx hb dL_law_256 (by decide) (fun c158 => ?_) (fun c158 => ?_)
    · have hf := if_of_pos hf c158
      refine lv_iload hx hb dL_law_264 (lv_at hl 2 rfl) ?_
      refine lv_icmp_ne (tgt := 292) hx hb dL_law_266 (by decide) (fun c159 => ?_) (fun c159 => ?_)
      · have hf := if_of_pos hf c159
        refine lv_iconst (v := 0) hx hb dL_law_292 (by decide) ?_
        exact wL_law_J293 hC hK hA hX hst hXS hbl hbA hL hcc hss hret ih _ _ _ _ _ _ _ q152.2.1 q152.2.2 v3 v4 v5 0 hm hn hW hS (lv_sub hl [3, 4, 5, 6, 7, 8] rfl) hf
      · have hf := if_of_neg hf (fun q => q c159)
        refine lv_aload_n hx hb dL_law_269 rfl (lv_at hl 4 rfl) ?_
        refine lv_iload hx hb dL_law_270 (lv_at hl 9 rfl) ?_
        obtain ⟨q160, m161, n162, m163, n164, hcq160, hf, hem, hen⟩ := yb_of hf
        refine kdX_i (X := []) (rest := []) (q := q160) (by decide) hA hW hS (fun ad g0 hR hLX => by subst g0; exact ⟨_, vx_runV (As := [.int v9]) ⟨hx, hb, hml, hown, hts⟩ (mX5_left l hst D dA ad q152.2.1 _ x mi v9 (.inr q160) m161 n162 hcq160) (cwV 1 hts gL_61 rfl rfl rfl (by decide +kernel) ⟨Nat.le_of_ble_eq_true rfl, Nat.le_of_ble_eq_true rfl⟩) (preVA_of hA hR hS hK hX hLX _) rfl rfl hl.1 rfl (lv_room (Nat.le_of_ble_eq_true rfl)) dL_law_272 ⟨Nat.le_trans (nle hm hem) hcc, Nat.le_trans (nle hn hen) hss⟩⟩) (fun H locs hW hS => ?_)
        have hm := nadd hm hem
        have hn := nadd hn hen
        refine lv_if_ne (tgt := 292) hx hb dL_law_275 (by decide) (fun c165 => ?_) (fun c165 => ?_)
        · have hf := if_of_pos hf c165
          refine lv_iconst (v := 0) hx hb dL_law_292 (by decide) ?_
          exact wL_law_J293 hC hK hA hX hst hXS hbl hbA hL hcc hss hret ih _ _ _ _ _ _ _ q160.2 q152.2.2 v3 v4 v5 0 hm hn hW hS (lv_sub hl [3, 4, 5, 6, 7, 8] rfl) hf
        · have hf := if_of_neg hf (fun q => q c165)
          refine lv_aload_n hx hb dL_law_278 rfl (lv_at hl 4 rfl) ?_
          obtain ⟨q166, m167, n168, m169, n170, hcq166, hf, hem, hen⟩ := bt2_of hf
          refine kdA_l (X := [13, 15]) (rest := []) (r := q166.1) (σ' := q166.2) (by decide) hA hW hS (fun ad g0 hR hLX => by subst g0; exact ⟨_, va_runS (As := [.ref (ad 0 0)]) ⟨hx, hb, hml, hown, hts⟩ (mL_equities l hst D dA ad q160.2 _ x mi q166.1 q166.2 m167 n168 hcq166) (va_cwS 1 hts gL_139 rfl rfl rfl (by decide +kernel) ⟨Nat.le_of_ble_eq_true rfl, Nat.le_of_ble_eq_true rfl⟩) (preSA_of hA hR hS hK hX hLX _) rfl rfl hl.1 rfl (lv_room (Nat.le_of_ble_eq_true rfl)) dL_law_279 ⟨Nat.le_trans (nle hm hem) hcc, Nat.le_trans (nle hn hen) hss⟩⟩) (fun H locs hW hS => ?_)
          have hm := nadd hm hem
          have hn := nadd hn hen
          refine lv_lload hx hb dL_law_282 (lv_at hl 1 rfl) ?_
          refine W.lcmp hx hb dL_law_284 ?_
          refine lv_if_ne (tgt := 292) hx hb dL_law_285 (by decide) (fun c1710 => ?_) (fun c1710 => ?_)
          · have c171 : ¬ q166.1 = q147.1 := fun q => c1710 ((lg_cmp_eq _ _).mpr q)
            have hf := if_of_pos hf c171
            refine lv_iconst (v := 0) hx hb dL_law_292 (by decide) ?_
            exact wL_law_J293 hC hK hA hX hst hXS hbl hbA hL hcc hss hret ih _ _ _ _ _ _ _ q166.2 q152.2.2 v3 v4 v5 0 hm hn hW hS (lv_sub hl [3, 4, 5, 6, 7, 8] rfl) hf
          · have c171 : ¬ ¬ q166.1 = q147.1 := fun q => q ((lg_cmp_eq _ _).mp c1710)
            have hf := if_of_neg hf c171
            refine lv_iconst (v := 1) hx hb dL_law_288 (by decide) ?_
            refine lv_goto (tgt := 293) hx hb dL_law_289 (by decide) ?_
            exact wL_law_J293 hC hK hA hX hst hXS hbl hbA hL hcc hss hret ih _ _ _ _ _ _ _ q166.2 q152.2.2 v3 v4 v5 1 hm hn hW hS (lv_sub hl [3, 4, 5, 6, 7, 8] rfl) hf
    · have hf := if_of_neg hf (fun q => q c158)
      refine lv_ldc (v := (-2000000003)) hx hb hown (hts _ q_637) dL_law_259 ?_
      refine lv_goto (tgt := 266) hx hb dL_law_261 (by decide) ?_
      refine lv_icmp_ne (tgt := 292) hx hb dL_law_266 (by decide) (fun c172 => ?_) (fun c172 => ?_)
      · have hf := if_of_pos hf c172
        refine lv_iconst (v := 0) hx hb dL_law_292 (by decide) ?_
        exact wL_law_J293 hC hK hA hX hst hXS hbl hbA hL hcc hss hret ih _ _ _ _ _ _ _ q152.2.1 q152.2.2 v3 v4 v5 0 hm hn hW hS (lv_sub hl [3, 4, 5, 6, 7, 8] rfl) hf
      · have hf := if_of_neg hf (fun q => q c172)
        refine lv_aload_n hx hb dL_law_269 rfl (lv_at hl 4 rfl) ?_
        refine lv_iload hx hb dL_law_270 (lv_at hl 9 rfl) ?_
        obtain ⟨q173, m174, n175, m176, n177, hcq173, hf, hem, hen⟩ := yb_of hf
        refine kdX_i (X := []) (rest := []) (q := q173) (by decide) hA hW hS (fun ad g0 hR hLX => by subst g0; exact ⟨_, vx_runV (As := [.int v9]) ⟨hx, hb, hml, hown, hts⟩ (mX5_left l hst D dA ad q152.2.1 _ x mi v9 (.inr q173) m174 n175 hcq173) (cwV 1 hts gL_61 rfl rfl rfl (by decide +kernel) ⟨Nat.le_of_ble_eq_true rfl, Nat.le_of_ble_eq_true rfl⟩) (preVA_of hA hR hS hK hX hLX _) rfl rfl hl.1 rfl (lv_room (Nat.le_of_ble_eq_true rfl)) dL_law_272 ⟨Nat.le_trans (nle hm hem) hcc, Nat.le_trans (nle hn hen) hss⟩⟩) (fun H locs hW hS => ?_)
        have hm := nadd hm hem
        have hn := nadd hn hen
        refine lv_if_ne (tgt := 292) hx hb dL_law_275 (by decide) (fun c178 => ?_) (fun c178 => ?_)
        · have hf := if_of_pos hf c178
          refine lv_iconst (v := 0) hx hb dL_law_292 (by decide) ?_
          exact wL_law_J293 hC hK hA hX hst hXS hbl hbA hL hcc hss hret ih _ _ _ _ _ _ _ q173.2 q152.2.2 v3 v4 v5 0 hm hn hW hS (lv_sub hl [3, 4, 5, 6, 7, 8] rfl) hf
        · have hf := if_of_neg hf (fun q => q c178)
          refine lv_aload_n hx hb dL_law_278 rfl (lv_at hl 4 rfl) ?_
          obtain ⟨q179, m180, n181, m182, n183, hcq179, hf, hem, hen⟩ := bt2_of hf
          refine kdA_l (X := [13, 15]) (rest := []) (r := q179.1) (σ' := q179.2) (by decide) hA hW hS (fun ad g0 hR hLX => by subst g0; exact ⟨_, va_runS (As := [.ref (ad 0 0)]) ⟨hx, hb, hml, hown, hts⟩ (mL_equities l hst D dA ad q173.2 _ x mi q179.1 q179.2 m180 n181 hcq179) (va_cwS 1 hts gL_139 rfl rfl rfl (by decide +kernel) ⟨Nat.le_of_ble_eq_true rfl, Nat.le_of_ble_eq_true rfl⟩) (preSA_of hA hR hS hK hX hLX _) rfl rfl hl.1 rfl (lv_room (Nat.le_of_ble_eq_true rfl)) dL_law_279 ⟨Nat.le_trans (nle hm hem) hcc, Nat.le_trans (nle hn hen) hss⟩⟩) (fun H locs hW hS => ?_)
          have hm := nadd hm hem
          have hn := nadd hn hen
          refine lv_lload hx hb dL_law_282 (lv_at hl 1 rfl) ?_
          refine W.lcmp hx hb dL_law_284 ?_
          refine lv_if_ne (tgt := 292) hx hb dL_law_285 (by decide) (fun c1840 => ?_) (fun c1840 => ?_)
          · have c184 : ¬ q179.1 = q147.1 := fun q => c1840 ((lg_cmp_eq _ _).mpr q)
            have hf := if_of_pos hf c184
            refine lv_iconst (v := 0) hx hb dL_law_292 (by decide) ?_
            exact wL_law_J293 hC hK hA hX hst hXS hbl hbA hL hcc hss hret ih _ _ _ _ _ _ _ q179.2 q152.2.2 v3 v4 v5 0 hm hn hW hS (lv_sub hl [3, 4, 5, 6, 7, 8] rfl) hf
          · have c184 : ¬ ¬ q179.1 = q147.1 := fun q => q ((lg_cmp_eq _ _).mp c1840)
            have hf := if_of_neg hf c184
            refine lv_iconst (v := 1) hx hb dL_law_288 (by decide) ?_
            refine lv_goto (tgt := 293) hx hb dL_law_289 (by decide) ?_
            exact wL_law_J293 hC hK hA hX hst hXS hbl hbA hL hcc hss hret ih _ _ _ _ _ _ _ q179.2 q152.2.2 v3 v4 v5 1 hm hn hW hS (lv_sub hl [3, 4, 5, 6, 7, 8] rfl) hf
  · have hf := if_of_neg hf (fun q => q c157)
    refine lv_iload hx hb dL_law_242 (lv_at hl 0 rfl) ?_
    refine lv_ldc (v := (-2000000001)) hx hb hown (hts _ q_635) dL_law_244 ?_
    refine lv_icmp_ne (tgt := 292) hx hb dL_law_246 (by decide) (fun c185 => ?_) (fun c185 => ?_)
    · have hf := if_of_pos hf c185
      refine lv_iconst (v := 0) hx hb dL_law_292 (by decide) ?_
      exact wL_law_J293 hC hK hA hX hst hXS hbl hbA hL hcc hss hret ih _ _ _ _ _ _ _ q152.2.1 q152.2.2 v3 v4 v5 0 hm hn hW hS (lv_sub hl [3, 4, 5, 6, 7, 8] rfl) hf
    · have hf := if_of_neg hf (fun q => q c185)
      refine lv_goto (tgt := 278) hx hb dL_law_249 (by decide) ?_
      refine lv_aload_n hx hb dL_law_278 rfl (lv_at hl 4 rfl) ?_
      obtain ⟨q186, m187, n188, m189, n190, hcq186, hf, hem, hen⟩ := bt2_of hf
      refine kdA_l (X := [13, 15]) (rest := []) (r := q186.1) (σ' := q186.2) (by decide) hA hW hS (fun ad g0 hR hLX => by subst g0; exact ⟨_, va_runS (As := [.ref (ad 0 0)]) ⟨hx, hb, hml, hown, hts⟩ (mL_equities l hst D dA ad q152.2.1 _ x mi q186.1 q186.2 m187 n188 hcq186) (va_cwS 1 hts gL_139 rfl rfl rfl (by decide +kernel) ⟨Nat.le_of_ble_eq_true rfl, Nat.le_of_ble_eq_true rfl⟩) (preSA_of hA hR hS hK hX hLX _) rfl rfl hl.1 rfl (lv_room (Nat.le_of_ble_eq_true rfl)) dL_law_279 ⟨Nat.le_trans (nle hm hem) hcc, Nat.le_trans (nle hn hen) hss⟩⟩) (fun H locs hW hS => ?_)
      have hm := nadd hm hem
      have hn := nadd hn hen
      refine lv_lload hx hb dL_law_282 (lv_at hl 1 rfl) ?_
      refine W.lcmp hx hb dL_law_284 ?_
      refine lv_if_ne (tgt := 292) hx hb dL_law_285 (by decide) (fun c1910 => ?_) (fun c1910 => ?_)
      · have c191 : ¬ q186.1 = q147.1 := fun q => c1910 ((lg_cmp_eq _ _).mpr q)
        have hf := if_of_pos hf c191
        refine lv_iconst (v := 0) hx hb dL_law_292 (by decide) ?_
        exact wL_law_J293 hC hK hA hX hst hXS hbl hbA hL hcc hss hret ih _ _ _ _ _ _ _ q186.2 q152.2.2 v3 v4 v5 0 hm hn hW hS (lv_sub hl [3, 4, 5, 6, 7, 8] rfl) hf
      · have c191 : ¬ ¬ q186.1 = q147.1 := fun q => q ((lg_cmp_eq _ _).mp c1910)
        have hf := if_of_neg hf c191
        refine lv_iconst (v := 1) hx hb dL_law_288 (by decide) ?_
        refine lv_goto (tgt := 293) hx hb dL_law_289 (by decide) ?_
        exact wL_law_J293 hC hK hA hX hst hXS hbl hbA hL hcc hss hret ih _ _ _ _ _ _ _ q186.2 q152.2.2 v3 v4 v5 1 hm hn hW hS (lv_sub hl [3, 4, 5, 6, 7, 8] rfl) hf
set_option maxHeartbeats 4000000 in
set_option maxRecDepth 100000 in
theorem wL_law_J177 {p : Program} {l : Launch} {e : Env} {s : State} {m : MethodId} {args : Array Value} {below : List Frame} {meth : Method} {c : Code} {D : va_G} {dA : Nat → ClassId} {A0 : Nat → Prop} {x mi mc ms h1 h2 : Nat} {r : Int32} {σ1' σ2' : St} {b L : Nat} {xs : Nat → Int32} {Q : State → Prop} {k : St → St → Int32 → Int32 → Int32 → Option ((Int32 × St × St) × Nat × Nat)} (hC : CTX p s m args meth c code 14 RL ret) (hK : KS D dA s) (hA : ∀ q, s.heap.size ≤ q → A0 q) (hX : EXT x mi A0 s s.heap) (hst : l.stackTraces = false) (hXS : va_X b L xs s s.heap) (hbl : b < s.heap.size) (hbA : ¬ A0 b) (hL : L ≤ 260) (hcc : mc ≤ room_1.cells) (hss : ms ≤ room_1.slots) (hret : ∀ (H : Heap) (locs : List Loc) (ls : Array Slot) (c1 s1 : Nat), va_S A0 s.heap H locs → c1 ≤ mc → s1 ≤ ms → W p l e room_1 s m args below meth c H locs c1 s1 Q (F0 m 521 ls [.int r])) (ih : ∀ (H : Heap) (locs : List Loc) (ls : Array Slot) (c0 s0 mr sr : Nat) (σ1 σ2 : St) (v3 : Int32) (v4 : Int32) (v5 : Int32), mc = c0 + mr → ms = s0 + sr → W2 D dA x h1 h2 σ1 σ2 A0 H → va_S A0 s.heap H locs → lv_has ls 14 [(0, .ref b), (1, .ref h1), (2, .ref h2), (3, .int v3), (4, .int v4), (5, .int v5)] → k σ1 σ2 v3 v4 v5 = some ((r, σ1', σ2'), mr, sr) → W p l e room_1 s m args below meth c H locs c0 s0 Q (F0 m 50 ls [])) : ∀ (H : Heap) (locs : List Loc) (ls : Array Slot) (c0 s0 mr sr : Nat) (σ1 σ2 : St) (v3 : Int32) (v4 : Int32) (v5 : Int32) (t0 : Int32) (t1 : Int32), mc = c0 + mr → ms = s0 + sr → W2 D dA x h1 h2 σ1 σ2 A0 H → va_S A0 s.heap H locs → lv_has ls 14 [(0, .ref b), (1, .ref h1), (2, .ref h2), (3, .int v3), (4, .int v4), (5, .int v5)] → fL_law_J177 L xs k σ1 σ2 v3 v4 v5 t0 t1 = some ((r, σ1', σ2'), mr, sr) → W p l e room_1 s m args below meth c H locs c0 s0 Q (F0 m 177 ls [.int t0, .int t1]) := by
  obtain ⟨hx, hb, hml, hown, hts, hr, hlk⟩ := id hC
  intro H locs ls c0 s0 mr sr σ1 σ2 v3 v4 v5 t0 t1 hm hn hW hS hl hf
  unfold fL_law_J177 at hf
  refine lv_iadd hx hb dL_law_177 ?_
  refine lv_topi (fun x229 hx229 => ?_)
  have hf := kst_eq hx229 hf
  refine lv_istore_n (lv' := [(3, .int x229), (0, .ref b), (1, .ref h1), (2, .ref h2), (4, .int v4), (5, .int v5)]) hx hb dL_law_178 rfl hl (by decide) rfl (fun ls hl => ?_)
  refine lv_goto (tgt := 442) hx hb dL_law_179 (by decide) ?_
  exact wL_law_J442 hC hK hA hX hst hXS hbl hbA hL hcc hss hret ih _ _ _ _ _ _ _ σ1 σ2 x229 v4 v5 hm hn hW hS (lv_sub hl [1, 2, 3, 0, 4, 5] rfl) hf
set_option maxHeartbeats 4000000 in
set_option maxRecDepth 100000 in
theorem wL_law_L50 {p : Program} {l : Launch} {e : Env} {s : State} {m : MethodId} {args : Array Value} {below : List Frame} {meth : Method} {c : Code} {D : va_G} {dA : Nat → ClassId} {A0 : Nat → Prop} {x mi mc ms h1 h2 : Nat} {r : Int32} {σ1' σ2' : St} {b L : Nat} {xs : Nat → Int32} {Q : State → Prop} (hC : CTX p s m args meth c code 14 RL ret) (hK : KS D dA s) (hA : ∀ q, s.heap.size ≤ q → A0 q) (hX : EXT x mi A0 s s.heap) (hst : l.stackTraces = false) (hXS : va_X b L xs s s.heap) (hbl : b < s.heap.size) (hbA : ¬ A0 b) (hL : L ≤ 260) (hcc : mc ≤ room_1.cells) (hss : ms ≤ room_1.slots) (hret : ∀ (H : Heap) (locs : List Loc) (ls : Array Slot) (c1 s1 : Nat), va_S A0 s.heap H locs → c1 ≤ mc → s1 ≤ ms → W p l e room_1 s m args below meth c H locs c1 s1 Q (F0 m 521 ls [.int r])) : ∀ (n : Nat) (H : Heap) (locs : List Loc) (ls : Array Slot) (c0 s0 mr sr : Nat) (σ1 σ2 : St) (v3 : Int32) (v4 : Int32) (v5 : Int32), mc = c0 + mr → ms = s0 + sr → W2 D dA x h1 h2 σ1 σ2 A0 H → va_S A0 s.heap H locs → lv_has ls 14 [(0, .ref b), (1, .ref h1), (2, .ref h2), (3, .int v3), (4, .int v4), (5, .int v5)] → fL_law_L50 L xs n σ1 σ2 v3 v4 v5 = some ((r, σ1', σ2'), mr, sr) → W p l e room_1 s m args below meth c H locs c0 s0 Q (F0 m 50 ls []) := by
  obtain ⟨hx, hb, hml, hown, hts, hr, hlk⟩ := id hC
  intro n
  induction n with
  | zero =>
    intro H locs ls c0 s0 mr sr σ1 σ2 v3 v4 v5 hm hn hW hS hl hf
    rw [fL_law_L50.eq_1] at hf
    cases hf
  | succ n ih =>
    intro H locs ls c0 s0 mr sr σ1 σ2 v3 v4 v5 hm hn hW hS hl hf
    rw [fL_law_L50.eq_2] at hf
    refine lv_iload hx hb dL_law_50 (lv_at hl 5 rfl) ?_
    refine lv_bipush (v := 120) hx hb dL_law_52 (by decide) ?_
    refine lv_icmp_ge (tgt := 497) hx hb dL_law_54 (by decide) (fun c7 => ?_) (fun c7 => ?_)
    · have hf := if_of_pos hf c7
      refine lv_iload hx hb dL_law_497 (lv_at hl 4 rfl) ?_
      refine lv_if_eq (tgt := 520) hx hb dL_law_499 (by decide) (fun c8 => ?_) (fun c8 => ?_)
      · have hf := if_of_pos hf c8
        refine lv_iconst (v := 0) hx hb dL_law_520 (by decide) ?_
        cases hf
        exact hret _ _ _ _ _ hS (nfin hm) (nfin hn)
      · have hf := if_of_neg hf c8
        refine lv_aload_n hx hb dL_law_502 rfl (lv_at hl 1 rfl) ?_
        refine lv_iload_n hx hb dL_law_503 rfl (lv_at hl 3 rfl) ?_
        obtain ⟨q9, m10, n11, m12, n13, hcq9, hf, hem, hen⟩ := bt2_of hf
        refine kdA_l (X := [13, 15]) (rest := []) (r := q9.1) (σ' := q9.2) (by decide) hA hW hS (fun ad g0 hR hLX => by subst g0; exact ⟨_, va_runS (As := [.ref (ad 0 0), .int v3]) ⟨hx, hb, hml, hown, hts⟩ (mL_all l hst D dA ad σ1 _ x mi v3 q9.1 q9.2 m10 n11 hcq9) (va_cwS 2 hts gL_135 rfl rfl rfl (by decide +kernel) ⟨Nat.le_of_ble_eq_true rfl, Nat.le_of_ble_eq_true rfl⟩) (preSA_of hA hR hS hK hX hLX _) rfl rfl hl.1 rfl (lv_room (Nat.le_of_ble_eq_true rfl)) dL_law_504 ⟨Nat.le_trans (nle hm hem) hcc, Nat.le_trans (nle hn hen) hss⟩⟩) (fun H locs hW hS => ?_)
        have hm := nadd hm hem
        have hn := nadd hn hen
        refine lv_aload_n hx hb dL_law_507 rfl (lv_at hl 2 rfl) ?_
        refine lv_iload_n hx hb dL_law_508 rfl (lv_at hl 3 rfl) ?_
        obtain ⟨q14, m15, n16, m17, n18, hcq14, hf, hem, hen⟩ := bt2_of hf
        refine kdA_l (X := [13, 15]) (rest := [.long q9.1]) (r := q14.1) (σ' := q14.2) (by decide) hA (W2_swap hW) hS (fun ad g0 hR hLX => by subst g0; exact ⟨_, va_runS (As := [.ref (ad 0 0), .int v3]) ⟨hx, hb, hml, hown, hts⟩ (mL_all l hst D dA ad σ2 _ x mi v3 q14.1 q14.2 m15 n16 hcq14) (va_cwS 2 hts gL_135 rfl rfl rfl (by decide +kernel) ⟨Nat.le_of_ble_eq_true rfl, Nat.le_of_ble_eq_true rfl⟩) (preSA_of hA hR hS hK hX hLX _) rfl rfl hl.1 rfl (lv_room (Nat.le_of_ble_eq_true rfl)) dL_law_509 ⟨Nat.le_trans (nle hm hem) hcc, Nat.le_trans (nle hn hen) hss⟩⟩) (fun H locs hW hS => ?_)
        have hW := W2_swap hW
        have hm := nadd hm hem
        have hn := nadd hn hen
        refine W.lcmp hx hb dL_law_512 ?_
        refine lv_if_ne (tgt := 520) hx hb dL_law_513 (by decide) (fun c190 => ?_) (fun c190 => ?_)
        · have c19 : ¬ q9.1 = q14.1 := fun q => c190 ((lg_cmp_eq _ _).mpr q)
          have hf := if_of_pos hf c19
          refine lv_iconst (v := 0) hx hb dL_law_520 (by decide) ?_
          cases hf
          exact hret _ _ _ _ _ hS (nfin hm) (nfin hn)
        · have c19 : ¬ ¬ q9.1 = q14.1 := fun q => q ((lg_cmp_eq _ _).mp c190)
          have hf := if_of_neg hf c19
          refine lv_iconst (v := 1) hx hb dL_law_516 (by decide) ?_
          refine lv_goto (tgt := 521) hx hb dL_law_517 (by decide) ?_
          cases hf
          exact hret _ _ _ _ _ hS (nfin hm) (nfin hn)
    · have hf := if_of_neg hf c7
      refine lv_iload hx hb dL_law_57 (lv_at hl 4 rfl) ?_
      refine lv_if_eq (tgt := 497) hx hb dL_law_59 (by decide) (fun c20 => ?_) (fun c20 => ?_)
      · have hf := if_of_pos hf c20
        refine lv_iload hx hb dL_law_497 (lv_at hl 4 rfl) ?_
        refine lv_if_eq (tgt := 520) hx hb dL_law_499 (by decide) (fun c21 => ?_) (fun c21 => ?_)
        · have hf := if_of_pos hf c21
          refine lv_iconst (v := 0) hx hb dL_law_520 (by decide) ?_
          cases hf
          exact hret _ _ _ _ _ hS (nfin hm) (nfin hn)
        · have hf := if_of_neg hf c21
          refine lv_aload_n hx hb dL_law_502 rfl (lv_at hl 1 rfl) ?_
          refine lv_iload_n hx hb dL_law_503 rfl (lv_at hl 3 rfl) ?_
          obtain ⟨q22, m23, n24, m25, n26, hcq22, hf, hem, hen⟩ := bt2_of hf
          refine kdA_l (X := [13, 15]) (rest := []) (r := q22.1) (σ' := q22.2) (by decide) hA hW hS (fun ad g0 hR hLX => by subst g0; exact ⟨_, va_runS (As := [.ref (ad 0 0), .int v3]) ⟨hx, hb, hml, hown, hts⟩ (mL_all l hst D dA ad σ1 _ x mi v3 q22.1 q22.2 m23 n24 hcq22) (va_cwS 2 hts gL_135 rfl rfl rfl (by decide +kernel) ⟨Nat.le_of_ble_eq_true rfl, Nat.le_of_ble_eq_true rfl⟩) (preSA_of hA hR hS hK hX hLX _) rfl rfl hl.1 rfl (lv_room (Nat.le_of_ble_eq_true rfl)) dL_law_504 ⟨Nat.le_trans (nle hm hem) hcc, Nat.le_trans (nle hn hen) hss⟩⟩) (fun H locs hW hS => ?_)
          have hm := nadd hm hem
          have hn := nadd hn hen
          refine lv_aload_n hx hb dL_law_507 rfl (lv_at hl 2 rfl) ?_
          refine lv_iload_n hx hb dL_law_508 rfl (lv_at hl 3 rfl) ?_
          obtain ⟨q27, m28, n29, m30, n31, hcq27, hf, hem, hen⟩ := bt2_of hf
          refine kdA_l (X := [13, 15]) (rest := [.long q22.1]) (r := q27.1) (σ' := q27.2) (by decide) hA (W2_swap hW) hS (fun ad g0 hR hLX => by subst g0; exact ⟨_, va_runS (As := [.ref (ad 0 0), .int v3]) ⟨hx, hb, hml, hown, hts⟩ (mL_all l hst D dA ad σ2 _ x mi v3 q27.1 q27.2 m28 n29 hcq27) (va_cwS 2 hts gL_135 rfl rfl rfl (by decide +kernel) ⟨Nat.le_of_ble_eq_true rfl, Nat.le_of_ble_eq_true rfl⟩) (preSA_of hA hR hS hK hX hLX _) rfl rfl hl.1 rfl (lv_room (Nat.le_of_ble_eq_true rfl)) dL_law_509 ⟨Nat.le_trans (nle hm hem) hcc, Nat.le_trans (nle hn hen) hss⟩⟩) (fun H locs hW hS => ?_)
          have hW := W2_swap hW
          have hm := nadd hm hem
          have hn := nadd hn hen
          refine W.lcmp hx hb dL_law_512 ?_
          refine lv_if_ne (tgt := 520) hx hb dL_law_513 (by decide) (fun c320 => ?_) (fun c320 => ?_)
          · have c32 : ¬ q22.1 = q27.1 := fun q => c320 ((lg_cmp_eq _ _).mpr q)
            have hf := if_of_pos hf c32
            refine lv_iconst (v := 0) hx hb dL_law_520 (by decide) ?_
            cases hf
            exact hret _ _ _ _ _ hS (nfin hm) (nfin hn)
          · have c32 : ¬ ¬ q22.1 = q27.1 := fun q => q ((lg_cmp_eq _ _).mp c320)
            have hf := if_of_neg hf c32
            refine lv_iconst (v := 1) hx hb dL_law_516 (by decide) ?_
            refine lv_goto (tgt := 521) hx hb dL_law_517 (by decide) ?_
            cases hf
            exact hret _ _ _ _ _ hS (nfin hm) (nfin hn)
      · have hf := if_of_neg hf c20
        refine lv_aload_n hx hb dL_law_62 rfl (lv_at hl 0 rfl) ?_
        refine lv_iconst (v := 2) hx hb dL_law_63 (by decide) ?_
        refine lv_iload hx hb dL_law_64 (lv_at hl 5 rfl) ?_
        refine lv_imul hx hb dL_law_66 ?_
        obtain ⟨g38, hf⟩ := gd_of hf
        refine kcell (rest := []) hA hW hS (va_runS (As := [.ref b, .int (2 * v5)]) ⟨hx, hb, hml, hown, hts⟩ (mL_cell l b L xs hL H.size (2 * v5) g38) (va_cwS 2 hts gL_162 rfl rfl rfl (by decide +kernel) ⟨Nat.le_of_ble_eq_true rfl, Nat.le_of_ble_eq_true rfl⟩) (preCell hXS hbl hbA hS _) rfl rfl hl.1 rfl (lv_room (Nat.le_of_ble_eq_true rfl)) dL_law_67 ⟨Nat.le_trans (nle0 hm) hcc, Nat.le_trans (nle0 hn) hss⟩) (fun H locs hW hS => ?_)
        refine lv_topi (fun x39 hx39 => ?_)
        have hf := kst_eq hx39 hf
        refine lv_istore (lv' := [(6, .int x39), (0, .ref b), (1, .ref h1), (2, .ref h2), (3, .int v3), (4, .int v4), (5, .int v5)]) hx hb dL_law_70 hl (by decide) rfl (fun ls hl => ?_)
        refine lv_aload_n hx hb dL_law_72 rfl (lv_at hl 1 rfl) ?_
        refine lv_iconst (v := 2) hx hb dL_law_73 (by decide) ?_
        refine lv_iload hx hb dL_law_74 (lv_at hl 6 rfl) ?_
        refine lv_imul hx hb dL_law_76 ?_
        refine lv_iconst (v := 1) hx hb dL_law_77 (by decide) ?_
        refine lv_iadd hx hb dL_law_78 ?_
        obtain ⟨g45, hf⟩ := gd_of hf
        refine kcell (rest := []) hA hW hS (va_runS (As := [.ref b, .int ((2 * v5) + 1)]) ⟨hx, hb, hml, hown, hts⟩ (mL_cell l b L xs hL H.size ((2 * v5) + 1) g45) (va_cwS 2 hts gL_162 rfl rfl rfl (by decide +kernel) ⟨Nat.le_of_ble_eq_true rfl, Nat.le_of_ble_eq_true rfl⟩) (preCell hXS hbl hbA hS _) rfl rfl hl.1 rfl (lv_room (Nat.le_of_ble_eq_true rfl)) dL_law_79 ⟨Nat.le_trans (nle0 hm) hcc, Nat.le_trans (nle0 hn) hss⟩) (fun H locs hW hS => ?_)
        refine lv_topi (fun x46 hx46 => ?_)
        have hf := kst_eq hx46 hf
        refine lv_istore (lv' := [(7, .int x46), (6, .int x39), (0, .ref b), (1, .ref h1), (2, .ref h2), (3, .int v3), (4, .int v4), (5, .int v5)]) hx hb dL_law_82 hl (by decide) rfl (fun ls hl => ?_)
        refine lv_iload hx hb dL_law_84 (lv_at hl 1 rfl) ?_
        refine lv_bipush (v := 20) hx hb dL_law_86 (by decide) ?_
        obtain ⟨q47, hcq47, hf⟩ := bd_of hf
        refine kdP_i (rest := []) (r := q47) (σ' := σ1) ⟨rfl, rfl, rfl, rfl, rfl, rfl, rfl⟩ hA hW hS (fun ad g0 hR => by subst g0; exact ⟨_, va_runS (As := [.int x39, .int 20]) ⟨hx, hb, hml, hown, hts⟩ (mL_some l D dA ad σ1 _ x39 20 q47 hcq47) (va_cwS 2 hts gL_128 rfl rfl rfl (by decide +kernel) ⟨Nat.le_of_ble_eq_true rfl, Nat.le_of_ble_eq_true rfl⟩) (preS_of hR hK _) rfl rfl hl.1 rfl (lv_room (Nat.le_of_ble_eq_true rfl)) dL_law_88 ⟨Nat.le_trans (nle0 hm) hcc, Nat.le_trans (nle0 hn) hss⟩⟩) (fun H locs hW hS => ?_)
        refine lv_istore (lv' := [(8, .int q47), (7, .int x46), (6, .int x39), (0, .ref b), (1, .ref h1), (2, .ref h2), (3, .int v3), (4, .int v4), (5, .int v5)]) hx hb dL_law_91 hl (by decide) rfl (fun ls hl => ?_)
        refine lv_iload hx hb dL_law_93 (lv_at hl 0 rfl) ?_
        refine lv_iconst (v := 4) hx hb dL_law_95 (by decide) ?_
        refine lv_icmp_ge (tgt := 111) hx hb dL_law_96 (by decide) (fun c52 => ?_) (fun c52 => ?_)
        · have hf := if_of_pos hf c52
          refine lv_iload hx hb dL_law_111 (lv_at hl 0 rfl) ?_
          refine lv_bipush (v := 7) hx hb dL_law_113 (by decide) ?_
          refine lv_icmp_ge (tgt := 131) hx hb dL_law_115 (by decide) (fun c53 => ?_) (fun c53 => ?_)
          · have hf := if_of_pos hf c53
            refine lv_iload hx hb dL_law_131 (lv_at hl 0 rfl) ?_
            refine lv_bipush (v := 13) hx hb dL_law_133 (by decide) ?_
            refine lv_icmp_ge (tgt := 182) hx hb dL_law_135 (by decide) (fun c54 => ?_) (fun c54 => ?_)
            · have hf := if_of_pos hf c54
              refine lv_iload hx hb dL_law_182 (lv_at hl 0 rfl) ?_
              refine lv_bipush (v := 14) hx hb dL_law_184 (by decide) ?_
              refine lv_icmp_ge (tgt := 298) hx hb dL_law_186 (by decide) (fun c55 => ?_) (fun c55 => ?_)
              · have hf := if_of_pos hf c55
                refine lv_iload hx hb dL_law_298 (lv_at hl 0 rfl) ?_
                refine lv_bipush (v := 15) hx hb dL_law_300 (by decide) ?_
                refine lv_icmp_ge (tgt := 418) hx hb dL_law_302 (by decide) (fun c56 => ?_) (fun c56 => ?_)
                · have hf := if_of_pos hf c56
                  refine lv_iload hx hb dL_law_418 (lv_at hl 0 rfl) ?_
                  refine lv_bipush (v := 16) hx hb dL_law_420 (by decide) ?_
                  refine lv_icmp_ge (tgt := 435) hx hb dL_law_422 (by decide) (fun c57 => ?_) (fun c57 => ?_)
                  · have hf := if_of_pos hf c57
                    refine lv_aload_n hx hb dL_law_435 rfl (lv_at hl 4 rfl) ?_
                    refine lv_aload_n hx hb dL_law_436 rfl (lv_at hl 5 rfl) ?_
                    obtain ⟨q58, m59, n60, m61, n62, hcq58, hf, hem, hen⟩ := bt2_of hf
                    refine kdD_i (rest := []) hS (va_runS (As := [.ref h1, .ref h2]) ⟨hx, hb, hml, hown, hts⟩ (mL_hour l hst D dA x mi h1 h2 σ1 σ2 A0 _ q58.1 q58.2.1 q58.2.2 m59 n60 hcq58) (va_cwS 2 hts gL_180 rfl rfl rfl (by decide +kernel) ⟨Nat.le_of_ble_eq_true rfl, Nat.le_of_ble_eq_true rfl⟩) (preD_of hA hW hS hK hX _) rfl rfl hl.1 rfl (lv_room (Nat.le_of_ble_eq_true rfl)) dL_law_437 ⟨Nat.le_trans (nle hm hem) hcc, Nat.le_trans (nle hn hen) hss⟩) (fun H locs hW hS => ?_)
                    have hm := nadd hm hem
                    have hn := nadd hn hen
                    refine lv_istore (lv' := [(4, .int q58.1), (8, .int q47), (7, .int x46), (6, .int x39), (0, .ref b), (1, .ref h1), (2, .ref h2), (3, .int v3), (5, .int v5)]) hx hb dL_law_440 hl (by decide) rfl (fun ls hl => ?_)
                    exact wL_law_J442 hC hK hA hX hst hXS hbl hbA hL hcc hss hret ih _ _ _ _ _ _ _ q58.2.1 q58.2.2 v3 q58.1 v5 hm hn hW hS (lv_sub hl [4, 5, 6, 7, 0, 8] rfl) hf
                  · have hf := if_of_neg hf c57
                    refine lv_aload_n hx hb dL_law_425 rfl (lv_at hl 4 rfl) ?_
                    refine lv_aload_n hx hb dL_law_426 rfl (lv_at hl 5 rfl) ?_
                    obtain ⟨q94, m95, n96, m97, n98, hcq94, hf, hem, hen⟩ := bt2_of hf
                    refine kdD_i (rest := []) hS (va_runS (As := [.ref h1, .ref h2]) ⟨hx, hb, hml, hown, hts⟩ (mL_evening l hst D dA x mi h1 h2 σ1 σ2 A0 _ q94.1 q94.2.1 q94.2.2 m95 n96 hcq94) (va_cwS 2 hts gL_177 rfl rfl rfl (by decide +kernel) ⟨Nat.le_of_ble_eq_true rfl, Nat.le_of_ble_eq_true rfl⟩) (preD_of hA hW hS hK hX _) rfl rfl hl.1 rfl (lv_room (Nat.le_of_ble_eq_true rfl)) dL_law_427 ⟨Nat.le_trans (nle hm hem) hcc, Nat.le_trans (nle hn hen) hss⟩) (fun H locs hW hS => ?_)
                    have hm := nadd hm hem
                    have hn := nadd hn hen
                    refine lv_istore (lv' := [(4, .int q94.1), (8, .int q47), (7, .int x46), (6, .int x39), (0, .ref b), (1, .ref h1), (2, .ref h2), (3, .int v3), (5, .int v5)]) hx hb dL_law_430 hl (by decide) rfl (fun ls hl => ?_)
                    refine lv_goto (tgt := 442) hx hb dL_law_432 (by decide) ?_
                    exact wL_law_J442 hC hK hA hX hst hXS hbl hbA hL hcc hss hret ih _ _ _ _ _ _ _ q94.2.1 q94.2.2 v3 q94.1 v5 hm hn hW hS (lv_sub hl [4, 5, 6, 7, 0, 8] rfl) hf
                · have hf := if_of_neg hf c56
                  refine lv_iload hx hb dL_law_305 (lv_at hl 1 rfl) ?_
                  refine lv_iconst (v := 4) hx hb dL_law_307 (by decide) ?_
                  obtain ⟨q99, hcq99, hf⟩ := bd_of hf
                  refine kdP_i (rest := []) (r := q99) (σ' := σ1) ⟨rfl, rfl, rfl, rfl, rfl, rfl, rfl⟩ hA hW hS (fun ad g0 hR => by subst g0; exact ⟨_, va_runS (As := [.int x46, .int 4]) ⟨hx, hb, hml, hown, hts⟩ (mL_some l D dA ad σ1 _ x46 4 q99 hcq99) (va_cwS 2 hts gL_128 rfl rfl rfl (by decide +kernel) ⟨Nat.le_of_ble_eq_true rfl, Nat.le_of_ble_eq_true rfl⟩) (preS_of hR hK _) rfl rfl hl.1 rfl (lv_room (Nat.le_of_ble_eq_true rfl)) dL_law_308 ⟨Nat.le_trans (nle0 hm) hcc, Nat.le_trans (nle0 hn) hss⟩⟩) (fun H locs hW hS => ?_)
                  refine lv_if_ne (tgt := 318) hx hb dL_law_311 (by decide) (fun c104 => ?_) (fun c104 => ?_)
                  · have hf := if_of_pos hf c104
                    refine lv_iconst (v := 0) hx hb dL_law_318 (by decide) ?_
                    exact wL_law_J319 hC hK hA hX hst hXS hbl hbA hL hcc hss hret ih _ _ _ _ _ _ _ σ1 σ2 v3 v4 v5 x46 0 hm hn hW hS (lv_sub hl [3, 4, 5, 6, 7, 8, 1] rfl) hf
                  · have hf := if_of_neg hf (fun q => q c104)
                    refine lv_iconst (v := 1) hx hb dL_law_314 (by decide) ?_
                    refine lv_goto (tgt := 319) hx hb dL_law_315 (by decide) ?_
                    exact wL_law_J319 hC hK hA hX hst hXS hbl hbA hL hcc hss hret ih _ _ _ _ _ _ _ σ1 σ2 v3 v4 v5 x46 1 hm hn hW hS (lv_sub hl [3, 4, 5, 6, 7, 8, 1] rfl) hf
              · have hf := if_of_neg hf c55
                refine lv_iload hx hb dL_law_189 (lv_at hl 1 rfl) ?_
                refine lv_iload_n hx hb dL_law_191 rfl (lv_at hl 6 rfl) ?_
                refine lv_iconst (v := 1) hx hb dL_law_192 (by decide) ?_
                refine lv_iadd hx hb dL_law_193 ?_
                obtain ⟨q136, hcq136, hf⟩ := bd_of hf
                refine kdP_i (rest := []) (r := q136) (σ' := σ1) ⟨rfl, rfl, rfl, rfl, rfl, rfl, rfl⟩ hA hW hS (fun ad g0 hR => by subst g0; exact ⟨_, va_runS (As := [.int x46, .int (v3 + 1)]) ⟨hx, hb, hml, hown, hts⟩ (mL_some l D dA ad σ1 _ x46 (v3 + 1) q136 hcq136) (va_cwS 2 hts gL_128 rfl rfl rfl (by decide +kernel) ⟨Nat.le_of_ble_eq_true rfl, Nat.le_of_ble_eq_true rfl⟩) (preS_of hR hK _) rfl rfl hl.1 rfl (lv_room (Nat.le_of_ble_eq_true rfl)) dL_law_194 ⟨Nat.le_trans (nle0 hm) hcc, Nat.le_trans (nle0 hn) hss⟩⟩) (fun H locs hW hS => ?_)
                refine lv_istore (lv' := [(9, .int q136), (8, .int q47), (7, .int x46), (6, .int x39), (0, .ref b), (1, .ref h1), (2, .ref h2), (3, .int v3), (4, .int v4), (5, .int v5)]) hx hb dL_law_197 hl (by decide) rfl (fun ls hl => ?_)
                refine lv_iload hx hb dL_law_199 (lv_at hl 0 rfl) ?_
                refine lv_iload_n hx hb dL_law_201 rfl (lv_at hl 7 rfl) ?_
                refine lv_icmp_ne (tgt := 209) hx hb dL_law_202 (by decide) (fun c141 => ?_) (fun c141 => ?_)
                · have hf := if_of_pos hf c141
                  refine lv_aload_n hx hb dL_law_209 rfl (lv_at hl 5 rfl) ?_
                  refine lv_iload hx hb dL_law_210 (lv_at hl 0 rfl) ?_
                  obtain ⟨q142, m143, n144, m145, n146, hcq142, hf, hem, hen⟩ := yb_of hf
                  refine kdX_i (X := []) (rest := []) (q := q142) (by decide) hA hW hS (fun ad g0 hR hLX => by subst g0; exact ⟨_, vx_runV (As := [.int q136]) ⟨hx, hb, hml, hown, hts⟩ (mX5_left l hst D dA ad σ1 _ x mi q136 (.inr q142) m143 n144 hcq142) (cwV 1 hts gL_61 rfl rfl rfl (by decide +kernel) ⟨Nat.le_of_ble_eq_true rfl, Nat.le_of_ble_eq_true rfl⟩) (preVA_of hA hR hS hK hX hLX _) rfl rfl hl.1 rfl (lv_room (Nat.le_of_ble_eq_true rfl)) dL_law_212 ⟨Nat.le_trans (nle hm hem) hcc, Nat.le_trans (nle hn hen) hss⟩⟩) (fun H locs hW hS => ?_)
                  have hm := nadd hm hem
                  have hn := nadd hn hen
                  exact wL_law_J215 hC hK hA hX hst hXS hbl hbA hL hcc hss hret ih _ _ _ _ _ _ _ q142.2 σ2 v3 v4 v5 q136 q142.1 hm hn hW hS (lv_sub hl [4, 5, 6, 7, 8, 9, 0] rfl) hf
                · have hf := if_of_neg hf (fun q => q c141)
                  refine lv_iconst (v := 0) hx hb dL_law_205 (by decide) ?_
                  refine lv_goto (tgt := 215) hx hb dL_law_206 (by decide) ?_
                  exact wL_law_J215 hC hK hA hX hst hXS hbl hbA hL hcc hss hret ih _ _ _ _ _ _ _ σ1 σ2 v3 v4 v5 q136 0 hm hn hW hS (lv_sub hl [4, 5, 6, 7, 8, 9, 0] rfl) hf
            · have hf := if_of_neg hf c54
              refine lv_iload_n hx hb dL_law_138 rfl (lv_at hl 6 rfl) ?_
              refine lv_bipush (v := 90) hx hb dL_law_139 (by decide) ?_
              refine lv_icmp_ge (tgt := 182) hx hb dL_law_141 (by decide) (fun c192 => ?_) (fun c192 => ?_)
              · have hf := if_of_pos hf c192
                refine lv_iload hx hb dL_law_182 (lv_at hl 0 rfl) ?_
                refine lv_bipush (v := 14) hx hb dL_law_184 (by decide) ?_
                refine lv_icmp_ge (tgt := 298) hx hb dL_law_186 (by decide) (fun c193 => ?_) (fun c193 => ?_)
                · have hf := if_of_pos hf c193
                  refine lv_iload hx hb dL_law_298 (lv_at hl 0 rfl) ?_
                  refine lv_bipush (v := 15) hx hb dL_law_300 (by decide) ?_
                  refine lv_icmp_ge (tgt := 418) hx hb dL_law_302 (by decide) (fun c194 => ?_) (fun c194 => ?_)
                  · have hf := if_of_pos hf c194
                    refine lv_iload hx hb dL_law_418 (lv_at hl 0 rfl) ?_
                    refine lv_bipush (v := 16) hx hb dL_law_420 (by decide) ?_
                    refine lv_icmp_ge (tgt := 435) hx hb dL_law_422 (by decide) (fun c195 => ?_) (fun c195 => ?_)
                    · have hf := if_of_pos hf c195
                      refine lv_aload_n hx hb dL_law_435 rfl (lv_at hl 4 rfl) ?_
                      refine lv_aload_n hx hb dL_law_436 rfl (lv_at hl 5 rfl) ?_
                      obtain ⟨q196, m197, n198, m199, n200, hcq196, hf, hem, hen⟩ := bt2_of hf
                      refine kdD_i (rest := []) hS (va_runS (As := [.ref h1, .ref h2]) ⟨hx, hb, hml, hown, hts⟩ (mL_hour l hst D dA x mi h1 h2 σ1 σ2 A0 _ q196.1 q196.2.1 q196.2.2 m197 n198 hcq196) (va_cwS 2 hts gL_180 rfl rfl rfl (by decide +kernel) ⟨Nat.le_of_ble_eq_true rfl, Nat.le_of_ble_eq_true rfl⟩) (preD_of hA hW hS hK hX _) rfl rfl hl.1 rfl (lv_room (Nat.le_of_ble_eq_true rfl)) dL_law_437 ⟨Nat.le_trans (nle hm hem) hcc, Nat.le_trans (nle hn hen) hss⟩) (fun H locs hW hS => ?_)
                      have hm := nadd hm hem
                      have hn := nadd hn hen
                      refine lv_istore (lv' := [(4, .int q196.1), (8, .int q47), (7, .int x46), (6, .int x39), (0, .ref b), (1, .ref h1), (2, .ref h2), (3, .int v3), (5, .int v5)]) hx hb dL_law_440 hl (by decide) rfl (fun ls hl => ?_)
                      exact wL_law_J442 hC hK hA hX hst hXS hbl hbA hL hcc hss hret ih _ _ _ _ _ _ _ q196.2.1 q196.2.2 v3 q196.1 v5 hm hn hW hS (lv_sub hl [4, 5, 6, 7, 0, 8] rfl) hf
                    · have hf := if_of_neg hf c195
                      refine lv_aload_n hx hb dL_law_425 rfl (lv_at hl 4 rfl) ?_
                      refine lv_aload_n hx hb dL_law_426 rfl (lv_at hl 5 rfl) ?_
                      obtain ⟨q201, m202, n203, m204, n205, hcq201, hf, hem, hen⟩ := bt2_of hf
                      refine kdD_i (rest := []) hS (va_runS (As := [.ref h1, .ref h2]) ⟨hx, hb, hml, hown, hts⟩ (mL_evening l hst D dA x mi h1 h2 σ1 σ2 A0 _ q201.1 q201.2.1 q201.2.2 m202 n203 hcq201) (va_cwS 2 hts gL_177 rfl rfl rfl (by decide +kernel) ⟨Nat.le_of_ble_eq_true rfl, Nat.le_of_ble_eq_true rfl⟩) (preD_of hA hW hS hK hX _) rfl rfl hl.1 rfl (lv_room (Nat.le_of_ble_eq_true rfl)) dL_law_427 ⟨Nat.le_trans (nle hm hem) hcc, Nat.le_trans (nle hn hen) hss⟩) (fun H locs hW hS => ?_)
                      have hm := nadd hm hem
                      have hn := nadd hn hen
                      refine lv_istore (lv' := [(4, .int q201.1), (8, .int q47), (7, .int x46), (6, .int x39), (0, .ref b), (1, .ref h1), (2, .ref h2), (3, .int v3), (5, .int v5)]) hx hb dL_law_430 hl (by decide) rfl (fun ls hl => ?_)
                      refine lv_goto (tgt := 442) hx hb dL_law_432 (by decide) ?_
                      exact wL_law_J442 hC hK hA hX hst hXS hbl hbA hL hcc hss hret ih _ _ _ _ _ _ _ q201.2.1 q201.2.2 v3 q201.1 v5 hm hn hW hS (lv_sub hl [4, 5, 6, 7, 0, 8] rfl) hf
                  · have hf := if_of_neg hf c194
                    refine lv_iload hx hb dL_law_305 (lv_at hl 1 rfl) ?_
                    refine lv_iconst (v := 4) hx hb dL_law_307 (by decide) ?_
                    obtain ⟨q206, hcq206, hf⟩ := bd_of hf
                    refine kdP_i (rest := []) (r := q206) (σ' := σ1) ⟨rfl, rfl, rfl, rfl, rfl, rfl, rfl⟩ hA hW hS (fun ad g0 hR => by subst g0; exact ⟨_, va_runS (As := [.int x46, .int 4]) ⟨hx, hb, hml, hown, hts⟩ (mL_some l D dA ad σ1 _ x46 4 q206 hcq206) (va_cwS 2 hts gL_128 rfl rfl rfl (by decide +kernel) ⟨Nat.le_of_ble_eq_true rfl, Nat.le_of_ble_eq_true rfl⟩) (preS_of hR hK _) rfl rfl hl.1 rfl (lv_room (Nat.le_of_ble_eq_true rfl)) dL_law_308 ⟨Nat.le_trans (nle0 hm) hcc, Nat.le_trans (nle0 hn) hss⟩⟩) (fun H locs hW hS => ?_)
                    refine lv_if_ne (tgt := 318) hx hb dL_law_311 (by decide) (fun c211 => ?_) (fun c211 => ?_)
                    · have hf := if_of_pos hf c211
                      refine lv_iconst (v := 0) hx hb dL_law_318 (by decide) ?_
                      exact wL_law_J319 hC hK hA hX hst hXS hbl hbA hL hcc hss hret ih _ _ _ _ _ _ _ σ1 σ2 v3 v4 v5 x46 0 hm hn hW hS (lv_sub hl [3, 4, 5, 6, 7, 8, 1] rfl) hf
                    · have hf := if_of_neg hf (fun q => q c211)
                      refine lv_iconst (v := 1) hx hb dL_law_314 (by decide) ?_
                      refine lv_goto (tgt := 319) hx hb dL_law_315 (by decide) ?_
                      exact wL_law_J319 hC hK hA hX hst hXS hbl hbA hL hcc hss hret ih _ _ _ _ _ _ _ σ1 σ2 v3 v4 v5 x46 1 hm hn hW hS (lv_sub hl [3, 4, 5, 6, 7, 8, 1] rfl) hf
                · have hf := if_of_neg hf c193
                  refine lv_iload hx hb dL_law_189 (lv_at hl 1 rfl) ?_
                  refine lv_iload_n hx hb dL_law_191 rfl (lv_at hl 6 rfl) ?_
                  refine lv_iconst (v := 1) hx hb dL_law_192 (by decide) ?_
                  refine lv_iadd hx hb dL_law_193 ?_
                  obtain ⟨q212, hcq212, hf⟩ := bd_of hf
                  refine kdP_i (rest := []) (r := q212) (σ' := σ1) ⟨rfl, rfl, rfl, rfl, rfl, rfl, rfl⟩ hA hW hS (fun ad g0 hR => by subst g0; exact ⟨_, va_runS (As := [.int x46, .int (v3 + 1)]) ⟨hx, hb, hml, hown, hts⟩ (mL_some l D dA ad σ1 _ x46 (v3 + 1) q212 hcq212) (va_cwS 2 hts gL_128 rfl rfl rfl (by decide +kernel) ⟨Nat.le_of_ble_eq_true rfl, Nat.le_of_ble_eq_true rfl⟩) (preS_of hR hK _) rfl rfl hl.1 rfl (lv_room (Nat.le_of_ble_eq_true rfl)) dL_law_194 ⟨Nat.le_trans (nle0 hm) hcc, Nat.le_trans (nle0 hn) hss⟩⟩) (fun H locs hW hS => ?_)
                  refine lv_istore (lv' := [(9, .int q212), (8, .int q47), (7, .int x46), (6, .int x39), (0, .ref b), (1, .ref h1), (2, .ref h2), (3, .int v3), (4, .int v4), (5, .int v5)]) hx hb dL_law_197 hl (by decide) rfl (fun ls hl => ?_)
                  refine lv_iload hx hb dL_law_199 (lv_at hl 0 rfl) ?_
                  refine lv_iload_n hx hb dL_law_201 rfl (lv_at hl 7 rfl) ?_
                  refine lv_icmp_ne (tgt := 209) hx hb dL_law_202 (by decide) (fun c217 => ?_) (fun c217 => ?_)
                  · have hf := if_of_pos hf c217
                    refine lv_aload_n hx hb dL_law_209 rfl (lv_at hl 5 rfl) ?_
                    refine lv_iload hx hb dL_law_210 (lv_at hl 0 rfl) ?_
                    obtain ⟨q218, m219, n220, m221, n222, hcq218, hf, hem, hen⟩ := yb_of hf
                    refine kdX_i (X := []) (rest := []) (q := q218) (by decide) hA hW hS (fun ad g0 hR hLX => by subst g0; exact ⟨_, vx_runV (As := [.int q212]) ⟨hx, hb, hml, hown, hts⟩ (mX5_left l hst D dA ad σ1 _ x mi q212 (.inr q218) m219 n220 hcq218) (cwV 1 hts gL_61 rfl rfl rfl (by decide +kernel) ⟨Nat.le_of_ble_eq_true rfl, Nat.le_of_ble_eq_true rfl⟩) (preVA_of hA hR hS hK hX hLX _) rfl rfl hl.1 rfl (lv_room (Nat.le_of_ble_eq_true rfl)) dL_law_212 ⟨Nat.le_trans (nle hm hem) hcc, Nat.le_trans (nle hn hen) hss⟩⟩) (fun H locs hW hS => ?_)
                    have hm := nadd hm hem
                    have hn := nadd hn hen
                    exact wL_law_J215 hC hK hA hX hst hXS hbl hbA hL hcc hss hret ih _ _ _ _ _ _ _ q218.2 σ2 v3 v4 v5 q212 q218.1 hm hn hW hS (lv_sub hl [4, 5, 6, 7, 8, 9, 0] rfl) hf
                  · have hf := if_of_neg hf (fun q => q c217)
                    refine lv_iconst (v := 0) hx hb dL_law_205 (by decide) ?_
                    refine lv_goto (tgt := 215) hx hb dL_law_206 (by decide) ?_
                    exact wL_law_J215 hC hK hA hX hst hXS hbl hbA hL hcc hss hret ih _ _ _ _ _ _ _ σ1 σ2 v3 v4 v5 q212 0 hm hn hW hS (lv_sub hl [4, 5, 6, 7, 8, 9, 0] rfl) hf
              · have hf := if_of_neg hf c192
                refine lv_aload_n hx hb dL_law_144 rfl (lv_at hl 4 rfl) ?_
                refine lv_aload_n hx hb dL_law_145 rfl (lv_at hl 5 rfl) ?_
                refine lv_iload_n hx hb dL_law_146 rfl (lv_at hl 6 rfl) ?_
                refine lv_iload hx hb dL_law_147 (lv_at hl 1 rfl) ?_
                obtain ⟨q223, m224, n225, m226, n227, hcq223, hf, hem, hen⟩ := bt2_of hf
                refine kdD_i (rest := []) hS (va_runS (As := [.ref h1, .ref h2, .int v3, .int x46]) ⟨hx, hb, hml, hown, hts⟩ (mL_places l hst D dA x mi h1 h2 σ1 σ2 A0 _ v3 x46 q223.1 q223.2.1 q223.2.2 m224 n225 hcq223) (va_cwS 4 hts gL_174 rfl rfl rfl (by decide +kernel) ⟨Nat.le_of_ble_eq_true rfl, Nat.le_of_ble_eq_true rfl⟩) (preD_of hA hW hS hK hX _) rfl rfl hl.1 rfl (lv_room (Nat.le_of_ble_eq_true rfl)) dL_law_149 ⟨Nat.le_trans (nle hm hem) hcc, Nat.le_trans (nle hn hen) hss⟩) (fun H locs hW hS => ?_)
                have hm := nadd hm hem
                have hn := nadd hn hen
                refine lv_istore (lv' := [(4, .int q223.1), (8, .int q47), (7, .int x46), (6, .int x39), (0, .ref b), (1, .ref h1), (2, .ref h2), (3, .int v3), (5, .int v5)]) hx hb dL_law_152 hl (by decide) rfl (fun ls hl => ?_)
                refine lv_iload_n hx hb dL_law_154 rfl (lv_at hl 7 rfl) ?_
                refine lv_iload hx hb dL_law_155 (lv_at hl 0 rfl) ?_
                refine lv_if_eq (tgt := 176) hx hb dL_law_157 (by decide) (fun c228 => ?_) (fun c228 => ?_)
                · have hf := if_of_pos hf c228
                  refine lv_iconst (v := 0) hx hb dL_law_176 (by decide) ?_
                  exact wL_law_J177 hC hK hA hX hst hXS hbl hbA hL hcc hss hret ih _ _ _ _ _ _ _ q223.2.1 q223.2.2 v3 q223.1 v5 0 v3 hm hn hW hS (lv_sub hl [4, 5, 6, 7, 0, 8] rfl) hf
                · have hf := if_of_neg hf c228
                  refine lv_aload_n hx hb dL_law_160 rfl (lv_at hl 5 rfl) ?_
                  refine lv_bipush (v := 9) hx hb dL_law_161 (by decide) ?_
                  refine lv_iload_n hx hb dL_law_163 rfl (lv_at hl 7 rfl) ?_
                  refine lv_iconst (v := 0) hx hb dL_law_164 (by decide) ?_
                  refine lv_iconst (v := 0) hx hb dL_law_165 (by decide) ?_
                  obtain ⟨q230, m231, n232, m233, n234, hcq230, hf, hem, hen⟩ := bt2_of hf
                  refine kdA_i (X := [13, 15]) (rest := [.int v3]) (r := q230.1) (σ' := q230.2) (by decide) hA hW hS (fun ad g0 hR hLX => by subst g0; exact ⟨_, vx_runSW (As := [.ref (ad 0 0), .int 9, .int v3, .int 0, .int 0]) ⟨hx, hb, hml, hown, hts⟩ (mL_call l hst D dA ad q223.2.1 _ x mi 9 v3 0 0 q230.1 q230.2 m231 n232 hcq230) (vx_cwSW 5 hts gL_120 rfl rfl rfl (by decide +kernel) ⟨Nat.le_of_ble_eq_true rfl, Nat.le_of_ble_eq_true rfl⟩) (preSA_of hA hR hS hK hX hLX _) rfl rfl hl.1 rfl (lv_room (Nat.le_of_ble_eq_true rfl)) dL_law_166 ⟨Nat.le_trans (nle hm hem) hcc, Nat.le_trans (nle hn hen) hss⟩⟩) (fun H locs hW hS => ?_)
                  have hm := nadd hm hem
                  have hn := nadd hn hen
                  refine lv_if_lt (tgt := 176) hx hb dL_law_169 (by decide) (fun c235 => ?_) (fun c235 => ?_)
                  · have hf := if_of_pos hf c235
                    refine lv_iconst (v := 0) hx hb dL_law_176 (by decide) ?_
                    exact wL_law_J177 hC hK hA hX hst hXS hbl hbA hL hcc hss hret ih _ _ _ _ _ _ _ q230.2 q223.2.2 v3 q223.1 v5 0 v3 hm hn hW hS (lv_sub hl [4, 5, 6, 7, 0, 8] rfl) hf
                  · have hf := if_of_neg hf c235
                    refine lv_iconst (v := 1) hx hb dL_law_172 (by decide) ?_
                    refine lv_goto (tgt := 177) hx hb dL_law_173 (by decide) ?_
                    exact wL_law_J177 hC hK hA hX hst hXS hbl hbA hL hcc hss hret ih _ _ _ _ _ _ _ q230.2 q223.2.2 v3 q223.1 v5 1 v3 hm hn hW hS (lv_sub hl [4, 5, 6, 7, 0, 8] rfl) hf
          · have hf := if_of_neg hf c53
            refine lv_aload_n hx hb dL_law_118 rfl (lv_at hl 4 rfl) ?_
            refine lv_aload_n hx hb dL_law_119 rfl (lv_at hl 5 rfl) ?_
            refine lv_iload_n hx hb dL_law_120 rfl (lv_at hl 6 rfl) ?_
            refine lv_iload hx hb dL_law_121 (lv_at hl 1 rfl) ?_
            obtain ⟨q236, m237, n238, m239, n240, hcq236, hf, hem, hen⟩ := bt2_of hf
            refine kdD_i (rest := []) hS (va_runS (As := [.ref h1, .ref h2, .int v3, .int x46]) ⟨hx, hb, hml, hown, hts⟩ (mL_pays l hst D dA x mi h1 h2 σ1 σ2 A0 _ v3 x46 q236.1 q236.2.1 q236.2.2 m237 n238 hcq236) (va_cwS 4 hts gL_170 rfl rfl rfl (by decide +kernel) ⟨Nat.le_of_ble_eq_true rfl, Nat.le_of_ble_eq_true rfl⟩) (preD_of hA hW hS hK hX _) rfl rfl hl.1 rfl (lv_room (Nat.le_of_ble_eq_true rfl)) dL_law_123 ⟨Nat.le_trans (nle hm hem) hcc, Nat.le_trans (nle hn hen) hss⟩) (fun H locs hW hS => ?_)
            have hm := nadd hm hem
            have hn := nadd hn hen
            refine lv_istore (lv' := [(4, .int q236.1), (8, .int q47), (7, .int x46), (6, .int x39), (0, .ref b), (1, .ref h1), (2, .ref h2), (3, .int v3), (5, .int v5)]) hx hb dL_law_126 hl (by decide) rfl (fun ls hl => ?_)
            refine lv_goto (tgt := 442) hx hb dL_law_128 (by decide) ?_
            exact wL_law_J442 hC hK hA hX hst hXS hbl hbA hL hcc hss hret ih _ _ _ _ _ _ _ q236.2.1 q236.2.2 v3 q236.1 v5 hm hn hW hS (lv_sub hl [4, 5, 6, 7, 0, 8] rfl) hf
        · have hf := if_of_neg hf c52
          refine lv_aload_n hx hb dL_law_99 rfl (lv_at hl 4 rfl) ?_
          refine lv_aload_n hx hb dL_law_100 rfl (lv_at hl 5 rfl) ?_
          refine lv_iload hx hb dL_law_101 (lv_at hl 1 rfl) ?_
          obtain ⟨q241, m242, n243, m244, n245, hcq241, hf, hem, hen⟩ := bt2_of hf
          refine kdD_i (rest := []) hS (va_runS (As := [.ref h1, .ref h2, .int x46]) ⟨hx, hb, hml, hown, hts⟩ (mL_tells l hst D dA x mi h1 h2 σ1 σ2 A0 _ x46 q241.1 q241.2.1 q241.2.2 m242 n243 hcq241) (va_cwS 3 hts gL_166 rfl rfl rfl (by decide +kernel) ⟨Nat.le_of_ble_eq_true rfl, Nat.le_of_ble_eq_true rfl⟩) (preD_of hA hW hS hK hX _) rfl rfl hl.1 rfl (lv_room (Nat.le_of_ble_eq_true rfl)) dL_law_103 ⟨Nat.le_trans (nle hm hem) hcc, Nat.le_trans (nle hn hen) hss⟩) (fun H locs hW hS => ?_)
          have hm := nadd hm hem
          have hn := nadd hn hen
          refine lv_istore (lv' := [(4, .int q241.1), (8, .int q47), (7, .int x46), (6, .int x39), (0, .ref b), (1, .ref h1), (2, .ref h2), (3, .int v3), (5, .int v5)]) hx hb dL_law_106 hl (by decide) rfl (fun ls hl => ?_)
          refine lv_goto (tgt := 442) hx hb dL_law_108 (by decide) ?_
          exact wL_law_J442 hC hK hA hX hst hXS hbl hbA hL hcc hss hret ih _ _ _ _ _ _ _ q241.2.1 q241.2.2 v3 q241.1 v5 hm hn hW hS (lv_sub hl [4, 5, 6, 7, 0, 8] rfl) hf
set_option maxHeartbeats 4000000 in
set_option maxRecDepth 100000 in
theorem wL_law_J45 {p : Program} {l : Launch} {e : Env} {s : State} {m : MethodId} {args : Array Value} {below : List Frame} {meth : Method} {c : Code} {D : va_G} {dA : Nat → ClassId} {A0 : Nat → Prop} {x mi mc ms h1 h2 : Nat} {r : Int32} {σ1' σ2' : St} {b L : Nat} {xs : Nat → Int32} {Q : State → Prop} (hC : CTX p s m args meth c code 14 RL ret) (hK : KS D dA s) (hA : ∀ q, s.heap.size ≤ q → A0 q) (hX : EXT x mi A0 s s.heap) (hst : l.stackTraces = false) (hXS : va_X b L xs s s.heap) (hbl : b < s.heap.size) (hbA : ¬ A0 b) (hL : L ≤ 260) (hcc : mc ≤ room_1.cells) (hss : ms ≤ room_1.slots) (hret : ∀ (H : Heap) (locs : List Loc) (ls : Array Slot) (c1 s1 : Nat), va_S A0 s.heap H locs → c1 ≤ mc → s1 ≤ ms → W p l e room_1 s m args below meth c H locs c1 s1 Q (F0 m 521 ls [.int r])) : ∀ (H : Heap) (locs : List Loc) (ls : Array Slot) (c0 s0 mr sr : Nat) (σ1 σ2 : St) (v3 : Int32) (t0 : Int32), mc = c0 + mr → ms = s0 + sr → W2 D dA x h1 h2 σ1 σ2 A0 H → va_S A0 s.heap H locs → lv_has ls 14 [(0, .ref b), (1, .ref h1), (2, .ref h2), (3, .int v3)] → fL_law_J45 L xs σ1 σ2 v3 t0 = some ((r, σ1', σ2'), mr, sr) → W p l e room_1 s m args below meth c H locs c0 s0 Q (F0 m 45 ls [.int t0]) := by
  obtain ⟨hx, hb, hml, hown, hts, hr, hlk⟩ := id hC
  intro H locs ls c0 s0 mr sr σ1 σ2 v3 t0 hm hn hW hS hl hf
  unfold fL_law_J45 at hf
  refine lv_istore (lv' := [(4, .int t0), (0, .ref b), (1, .ref h1), (2, .ref h2), (3, .int v3)]) hx hb dL_law_45 hl (by decide) rfl (fun ls hl => ?_)
  refine lv_iconst (v := 0) hx hb dL_law_47 (by decide) ?_
  refine lv_istore (lv' := [(5, .int 0), (4, .int t0), (0, .ref b), (1, .ref h1), (2, .ref h2), (3, .int v3)]) hx hb dL_law_48 hl (by decide) rfl (fun ls hl => ?_)
  exact wL_law_L50 hC hK hA hX hst hXS hbl hbA hL hcc hss hret 1000 _ _ _ _ _ _ _ σ1 σ2 v3 t0 0 hm hn hW hS (lv_sub hl [2, 3, 4, 5, 1, 0] rfl) hf
set_option maxHeartbeats 4000000 in
set_option maxRecDepth 100000 in
theorem wL_law_J16 {p : Program} {l : Launch} {e : Env} {s : State} {m : MethodId} {args : Array Value} {below : List Frame} {meth : Method} {c : Code} {D : va_G} {dA : Nat → ClassId} {A0 : Nat → Prop} {x mi mc ms h1 h2 : Nat} {r : Int32} {σ1' σ2' : St} {b L : Nat} {xs : Nat → Int32} {Q : State → Prop} (hC : CTX p s m args meth c code 14 RL ret) (hK : KS D dA s) (hA : ∀ q, s.heap.size ≤ q → A0 q) (hX : EXT x mi A0 s s.heap) (hst : l.stackTraces = false) (hXS : va_X b L xs s s.heap) (hbl : b < s.heap.size) (hbA : ¬ A0 b) (hL : L ≤ 260) (hcc : mc ≤ room_1.cells) (hss : ms ≤ room_1.slots) (hret : ∀ (H : Heap) (locs : List Loc) (ls : Array Slot) (c1 s1 : Nat), va_S A0 s.heap H locs → c1 ≤ mc → s1 ≤ ms → W p l e room_1 s m args below meth c H locs c1 s1 Q (F0 m 521 ls [.int r])) : ∀ (H : Heap) (locs : List Loc) (ls : Array Slot) (c0 s0 mr sr : Nat) (σ1 σ2 : St), mc = c0 + mr → ms = s0 + sr → W2 D dA x h1 h2 σ1 σ2 A0 H → va_S A0 s.heap H locs → lv_has ls 14 [(0, .ref b), (1, .ref h1), (2, .ref h2)] → fL_law_J16 L xs σ1 σ2 = some ((r, σ1', σ2'), mr, sr) → W p l e room_1 s m args below meth c H locs c0 s0 Q (F0 m 16 ls []) := by
  obtain ⟨hx, hb, hml, hown, hts, hr, hlk⟩ := id hC
  intro H locs ls c0 s0 mr sr σ1 σ2 hm hn hW hS hl hf
  unfold fL_law_J16 at hf
  refine lv_iconst (v := 0) hx hb dL_law_16 (by decide) ?_
  refine lv_istore_n (lv' := [(3, .int 0), (0, .ref b), (1, .ref h1), (2, .ref h2)]) hx hb dL_law_17 rfl hl (by decide) rfl (fun ls hl => ?_)
  refine lv_aload_n hx hb dL_law_18 rfl (lv_at hl 2 rfl) ?_
  refine lv_iconst (v := 0) hx hb dL_law_19 (by decide) ?_
  obtain ⟨q1, m2, n3, m4, n5, hcq1, hf, hem, hen⟩ := bt2_of hf
  refine kdA_i (X := [13, 15]) (rest := []) (r := q1.1) (σ' := q1.2) (by decide) hA hW hS (fun ad g0 hR hLX => by subst g0; exact ⟨_, va_runS (As := [.ref (ad 0 0), .int 0]) ⟨hx, hb, hml, hown, hts⟩ (mL_refused l hst D dA ad σ1 _ x mi 0 q1.1 q1.2 m2 n3 hcq1) (va_cwS 2 hts gL_158 rfl rfl rfl (by decide +kernel) ⟨Nat.le_of_ble_eq_true rfl, Nat.le_of_ble_eq_true rfl⟩) (preSA_of hA hR hS hK hX hLX _) rfl rfl hl.1 rfl (lv_room (Nat.le_of_ble_eq_true rfl)) dL_law_20 ⟨Nat.le_trans (nle hm hem) hcc, Nat.le_trans (nle hn hen) hss⟩⟩) (fun H locs hW hS => ?_)
  have hm := nadd hm hem
  have hn := nadd hn hen
  refine lv_if_eq (tgt := 44) hx hb dL_law_23 (by decide) (fun c6 => ?_) (fun c6 => ?_)
  · have hf := if_of_pos hf c6
    refine lv_iconst (v := 0) hx hb dL_law_44 (by decide) ?_
    exact wL_law_J45 hC hK hA hX hst hXS hbl hbA hL hcc hss hret _ _ _ _ _ _ _ q1.2 σ2 0 0 hm hn hW hS (lv_sub hl [1, 2, 3, 0] rfl) hf
  · have hf := if_of_neg hf c6
    refine lv_aload_n hx hb dL_law_26 rfl (lv_at hl 2 rfl) ?_
    refine lv_iconst (v := 0) hx hb dL_law_27 (by decide) ?_
    obtain ⟨q246, m247, n248, m249, n250, hcq246, hf, hem, hen⟩ := bt2_of hf
    refine kdA_l (X := [13, 15]) (rest := []) (r := q246.1) (σ' := q246.2) (by decide) hA hW hS (fun ad g0 hR hLX => by subst g0; exact ⟨_, va_runS (As := [.ref (ad 0 0), .int 0]) ⟨hx, hb, hml, hown, hts⟩ (mL_all l hst D dA ad q1.2 _ x mi 0 q246.1 q246.2 m247 n248 hcq246) (va_cwS 2 hts gL_135 rfl rfl rfl (by decide +kernel) ⟨Nat.le_of_ble_eq_true rfl, Nat.le_of_ble_eq_true rfl⟩) (preSA_of hA hR hS hK hX hLX _) rfl rfl hl.1 rfl (lv_room (Nat.le_of_ble_eq_true rfl)) dL_law_28 ⟨Nat.le_trans (nle hm hem) hcc, Nat.le_trans (nle hn hen) hss⟩⟩) (fun H locs hW hS => ?_)
    have hm := nadd hm hem
    have hn := nadd hn hen
    refine lv_aload_n hx hb dL_law_31 rfl (lv_at hl 3 rfl) ?_
    refine lv_iconst (v := 0) hx hb dL_law_32 (by decide) ?_
    obtain ⟨q251, m252, n253, m254, n255, hcq251, hf, hem, hen⟩ := bt2_of hf
    refine kdA_l (X := [13, 15]) (rest := [.long q246.1]) (r := q251.1) (σ' := q251.2) (by decide) hA (W2_swap hW) hS (fun ad g0 hR hLX => by subst g0; exact ⟨_, va_runS (As := [.ref (ad 0 0), .int 0]) ⟨hx, hb, hml, hown, hts⟩ (mL_all l hst D dA ad σ2 _ x mi 0 q251.1 q251.2 m252 n253 hcq251) (va_cwS 2 hts gL_135 rfl rfl rfl (by decide +kernel) ⟨Nat.le_of_ble_eq_true rfl, Nat.le_of_ble_eq_true rfl⟩) (preSA_of hA hR hS hK hX hLX _) rfl rfl hl.1 rfl (lv_room (Nat.le_of_ble_eq_true rfl)) dL_law_33 ⟨Nat.le_trans (nle hm hem) hcc, Nat.le_trans (nle hn hen) hss⟩⟩) (fun H locs hW hS => ?_)
    have hW := W2_swap hW
    have hm := nadd hm hem
    have hn := nadd hn hen
    refine W.lcmp hx hb dL_law_36 ?_
    refine lv_if_ne (tgt := 44) hx hb dL_law_37 (by decide) (fun c2560 => ?_) (fun c2560 => ?_)
    · have c256 : ¬ q246.1 = q251.1 := fun q => c2560 ((lg_cmp_eq _ _).mpr q)
      have hf := if_of_pos hf c256
      refine lv_iconst (v := 0) hx hb dL_law_44 (by decide) ?_
      exact wL_law_J45 hC hK hA hX hst hXS hbl hbA hL hcc hss hret _ _ _ _ _ _ _ q246.2 q251.2 0 0 hm hn hW hS (lv_sub hl [1, 2, 3, 0] rfl) hf
    · have c256 : ¬ ¬ q246.1 = q251.1 := fun q => q ((lg_cmp_eq _ _).mp c2560)
      have hf := if_of_neg hf c256
      refine lv_iconst (v := 1) hx hb dL_law_40 (by decide) ?_
      refine lv_goto (tgt := 45) hx hb dL_law_41 (by decide) ?_
      exact wL_law_J45 hC hK hA hX hst hXS hbl hbA hL hcc hss hret _ _ _ _ _ _ _ q246.2 q251.2 0 1 hm hn hW hS (lv_sub hl [1, 2, 3, 0] rfl) hf
