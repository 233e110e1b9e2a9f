theorem atX5_1 : atB (vx_at0 RX5 197 (exN 1) xNames) [42, 223, 232, 237, 240, 242, 224, 225, 63, 64, 226, 231, 238, 254, 213, 255, 215, 256, 217, 227, 229, 219, 318, 319, 320, 247, 204, 247, 248, 249, 250, 206, 250, 251, 252, 224, 208, 317, 309, 310, 311, 234, 312, 313, 314, 315, 222, 221, 316] = true := by decide +kernel
theorem fit_1 : Bundle.fit (exN 1) = true := by decide +kernel
theorem atX5_2 : atB (vx_at0 RX5 200 (exN 2) xNames) [42, 223, 232, 237, 240, 242, 224, 225, 63, 64, 226, 231, 238, 254, 213, 255, 215, 256, 217, 227, 229, 219, 368, 369, 370, 247, 204, 247, 248, 249, 250, 206, 250, 251, 252, 224, 208, 367, 359, 360, 361, 235, 362, 363, 364, 365, 222, 221, 366] = true := by decide +kernel
theorem fit_2 : Bundle.fit (exN 2) = true := by decide +kernel
theorem atX5_3 : atB (vx_at0 RX5 203 (exN 3) xNames) [42, 223, 232, 237, 240, 242, 224, 225, 63, 64, 226, 231, 238, 254, 213, 255, 215, 256, 217, 227, 229, 219, 244, 245, 246, 247, 204, 247, 248, 249, 250, 206, 250, 251, 252, 224, 208, 243, 202, 203, 210, 211, 212, 214, 216, 218, 222, 221, 220] = true := by decide +kernel
theorem fit_3 : Bundle.fit (exN 3) = true := by decide +kernel
theorem atX5_4 : atB (vx_at0 RX5 148 (exN 4) xNames) [42, 223, 232, 237, 240, 242, 224, 225, 63, 64, 226, 231, 238, 254, 213, 255, 215, 256, 217, 227, 229, 219, 582, 583, 584, 247, 204, 247, 248, 249, 250, 206, 250, 251, 252, 224, 208, 581, 573, 574, 575, 236, 576, 577, 578, 579, 222, 221, 580] = true := by decide +kernel
theorem fit_4 : Bundle.fit (exN 4) = true := by decide +kernel
def fX5_demandWithin (σ : St) (a1 : Int32) (a2 : Int32) (a3 : Int32) : Option ((XO (St)) × Nat × Nat) := if a1 < a2 then some (.inl (1, σ), 1, 6) else if a1 ≤ a3 then some (.inr σ, 0, 0) else some (.inl (1, σ), 1, 6)
set_option maxHeartbeats 4000000 in
set_option maxRecDepth 100000 in
theorem mX5_demandWithin (l : Launch) (hst : l.stackTraces = false) (D : va_G) (dA : Nat → ClassId) (ad : Nat → Nat → Nat) (σ : St) (sz x mi : Nat) (a1 : Int32) (a2 : Int32) (a3 : Int32) (o : XO (St)) (mc ms : Nat) (hf : fX5_demandWithin σ a1 a2 a3 = some (o, mc, ms)) : vx_Met l yX5_demandWithin (WSy yX5_demandWithin cX5_demandWithin 3 none) ({ frames := 6, cells := mc, slots := ms, locals := 90 } : Room) (va_Pc [.int a1, .int a2, .int a3] (PreA D dA ad σ x mi sz)) (QXv o D dA [] ad σ x (WA ad (cvC σ) sz)) (XXC o D dA [] ad σ x (WA ad (cvC σ) sz)) mc ms (WA ad (cvC σ) sz) := by
  refine metx_of (by decide) (Nat.le_of_ble_eq_true rfl) ?_
  intro p e s m below meth c ls hC hE hB hl
  obtain ⟨rfl, hR, hK, hX, hLX⟩ := hB
  have hA : ∀ q : Nat, s.heap.size ≤ q → WA ad (cvC σ) s.heap.size q := fun q h => Or.inr h
  have hR := WW_fit (B := WA ad (cvC σ) s.heap.size) hR (fun f i h => WA_in h)
  have hS : va_S (WA ad (cvC σ) s.heap.size) s.heap s.heap [] := va_S.rf
  generalize WA ad (cvC σ) s.heap.size = A0 at hA hR hS hX ⊢
  have hC : CTX p s m _ meth c cX5_demandWithin 3 RX5 none := hC
  obtain ⟨hx, hb, hml, hown, hts, hr, hlk⟩ := id hC
  have hl : lv_has ls 3 [(0, .int a1), (1, .int a2), (2, .int a3)] := hl
  have hKA : KA [] ad ad σ σ := KA_rf _ _ _
  have hm : mc = 0 + mc := (Nat.zero_add mc).symm
  have hn : ms = 0 + ms := (Nat.zero_add ms).symm
  unfold fX5_demandWithin at hf
  refine lv_iload_n hx hb dX5_demandWithin_0 rfl (lv_at hl 0 rfl) ?_
  refine lv_iload_n hx hb dX5_demandWithin_1 rfl (lv_at hl 1 rfl) ?_
  refine lv_icmp_lt (tgt := 10) hx hb dX5_demandWithin_2 (by decide) (fun c1 => ?_) (fun c1 => ?_)
  · have hf := if_of_pos hf c1
    cases hf
    exact thrx 1 hC hE hst hK hX hKA hLX hR hS fit_1 q_308 q_45 atX5_1 hl.1 dX5_demandWithin_10 dX5_demandWithin_13 dX5_demandWithin_14 dX5_demandWithin_17 (Nat.le_of_ble_eq_true rfl) (Nat.le_of_ble_eq_true rfl) (Nat.le_of_eq hm.symm) (Nat.le_of_eq hn.symm) (Nat.le_of_eq hm.symm) (Nat.le_of_eq hn.symm)
  · have hf := if_of_neg hf c1
    refine lv_iload_n hx hb dX5_demandWithin_5 rfl (lv_at hl 0 rfl) ?_
    refine lv_iload_n hx hb dX5_demandWithin_6 rfl (lv_at hl 2 rfl) ?_
    refine lv_icmp_le (tgt := 18) hx hb dX5_demandWithin_7 (by decide) (fun c2 => ?_) (fun c2 => ?_)
    · have hf := if_of_pos hf c2
      cases hf
      exact retx_v hC hKA hLX hR hS (nfin hm) (nfin hn) dX5_demandWithin_18
    · have hf := if_of_neg hf c2
      cases hf
      exact thrx 1 hC hE hst hK hX hKA hLX hR hS fit_1 q_308 q_45 atX5_1 hl.1 dX5_demandWithin_10 dX5_demandWithin_13 dX5_demandWithin_14 dX5_demandWithin_17 (Nat.le_of_ble_eq_true rfl) (Nat.le_of_ble_eq_true rfl) (Nat.le_of_eq hm.symm) (Nat.le_of_eq hn.symm) (Nat.le_of_eq hm.symm) (Nat.le_of_eq hn.symm)
def fX5_demandMember (σ : St) (a1 : Int32) : Option ((XO (St)) × Nat × Nat) := xb (fX5_demandWithin σ a1 0 4) (fun q1 => some (.inr q1, 0, 0))
set_option maxHeartbeats 4000000 in
set_option maxRecDepth 100000 in
theorem mX5_demandMember (l : Launch) (hst : l.stackTraces = false) (D : va_G) (dA : Nat → ClassId) (ad : Nat → Nat → Nat) (σ : St) (sz x mi : Nat) (a1 : Int32) (o : XO (St)) (mc ms : Nat) (hf : fX5_demandMember σ a1 = some (o, mc, ms)) : vx_Met l yX5_demandMember (WSy yX5_demandMember cX5_demandMember 1 none) ({ frames := 7, cells := mc, slots := ms, locals := 112 } : Room) (va_Pc [.int a1] (PreA D dA ad σ x mi sz)) (QXv o D dA [] ad σ x (WA ad (cvC σ) sz)) (XXC o D dA [] ad σ x (WA ad (cvC σ) sz)) mc ms (WA ad (cvC σ) sz) := by
  refine metx_of (by decide) (Nat.le_of_ble_eq_true rfl) ?_
  intro p e s m below meth c ls hC hE hB hl
  obtain ⟨rfl, hR, hK, hX, hLX⟩ := hB
  have hA : ∀ q : Nat, s.heap.size ≤ q → WA ad (cvC σ) s.heap.size q := fun q h => Or.inr h
  have hR := WW_fit (B := WA ad (cvC σ) s.heap.size) hR (fun f i h => WA_in h)
  have hS : va_S (WA ad (cvC σ) s.heap.size) s.heap s.heap [] := va_S.rf
  generalize WA ad (cvC σ) s.heap.size = A0 at hA hR hS hX ⊢
  have hC : CTX p s m _ meth c cX5_demandMember 1 RX5 none := hC
  obtain ⟨hx, hb, hml, hown, hts, hr, hlk⟩ := id hC
  have hl : lv_has ls 1 [(0, .int a1)] := hl
  have hKA : KA [] ad ad σ σ := KA_rf _ _ _
  have hm : mc = 0 + mc := (Nat.zero_add mc).symm
  have hn : ms = 0 + ms := (Nat.zero_add ms).symm
  unfold fX5_demandMember at hf
  refine lv_iload_n hx hb dX5_demandMember_0 rfl (lv_at hl 0 rfl) ?_
  refine lv_iconst (v := 0) hx hb dX5_demandMember_1 (by decide) ?_
  refine lv_iconst (v := 4) hx hb dX5_demandMember_2 (by decide) ?_
  rcases xb_of hf with ⟨e2, m3, n4, hcq1, rfl, hem, hen⟩ | ⟨q1, m3, n4, m5, n6, hcq1, hf, hem, hen⟩
  · refine kcx_v (vx_runS (As := [.int a1, .int 0, .int 4]) (rest := []) ⟨hx, hb, hml, hown, hts⟩ (mX5_demandWithin l hst D dA ad σ _ x mi a1 0 4 (.inl e2) m3 n4 hcq1) (va_cwS 3 hts gX5_48 rfl rfl rfl (by decide +kernel) ⟨Nat.le_of_ble_eq_true rfl, Nat.le_of_ble_eq_true rfl⟩) (preSA_of hA hR hS hK hX hLX _) rfl rfl hl.1 rfl (lv_room (Nat.le_of_ble_eq_true rfl)) dX5_demandMember_3 ⟨nleq hm hem, nleq hn hen⟩) hA hR hS (fun k σ' ad' H1 locs1 E ce q9 eo hEk hka hLX hR hS h1 h2 h3 => ?_) (fun _ _ _ _ eo => nomatch eo)
    cases eo
    exact passx hC hE hEk (KA_tr hKA hka (by decide)) hLX hR hS h1 h2 h3 (nleq hm hem) (nleq hn hen)
  refine kcx_vR (q := q1) (vx_runS (As := [.int a1, .int 0, .int 4]) (rest := []) ⟨hx, hb, hml, hown, hts⟩ (mX5_demandWithin l hst D dA ad σ _ x mi a1 0 4 (.inr q1) m3 n4 hcq1) (va_cwS 3 hts gX5_48 rfl rfl rfl (by decide +kernel) ⟨Nat.le_of_ble_eq_true rfl, Nat.le_of_ble_eq_true rfl⟩) (preSA_of hA hR hS hK hX hLX _) rfl rfl hl.1 rfl (lv_room (Nat.le_of_ble_eq_true rfl)) dX5_demandMember_3 ⟨nle hm hem, nle hn hen⟩) hA hR hS (fun ad7 H locs hka hLX hR hS => ?_)
  have hKA := KA_tr hKA hka (by decide)
  have hm := nadd hm hem
  have hn := nadd hn hen
  cases hf
  exact retx_v hC hKA hLX hR hS (nfin hm) (nfin hn) dX5_demandMember_6
def fX5_demandProduct (σ : St) (a1 : Int32) : Option ((XO (St)) × Nat × Nat) := xb (fX5_demandWithin σ a1 0 2) (fun q1 => some (.inr q1, 0, 0))
set_option maxHeartbeats 4000000 in
set_option maxRecDepth 100000 in
theorem mX5_demandProduct (l : Launch) (hst : l.stackTraces = false) (D : va_G) (dA : Nat → ClassId) (ad : Nat → Nat → Nat) (σ : St) (sz x mi : Nat) (a1 : Int32) (o : XO (St)) (mc ms : Nat) (hf : fX5_demandProduct σ a1 = some (o, mc, ms)) : vx_Met l yX5_demandProduct (WSy yX5_demandProduct cX5_demandProduct 1 none) ({ frames := 7, cells := mc, slots := ms, locals := 112 } : Room) (va_Pc [.int a1] (PreA D dA ad σ x mi sz)) (QXv o D dA [] ad σ x (WA ad (cvC σ) sz)) (XXC o D dA [] ad σ x (WA ad (cvC σ) sz)) mc ms (WA ad (cvC σ) sz) := by
  refine metx_of (by decide) (Nat.le_of_ble_eq_true rfl) ?_
  intro p e s m below meth c ls hC hE hB hl
  obtain ⟨rfl, hR, hK, hX, hLX⟩ := hB
  have hA : ∀ q : Nat, s.heap.size ≤ q → WA ad (cvC σ) s.heap.size q := fun q h => Or.inr h
  have hR := WW_fit (B := WA ad (cvC σ) s.heap.size) hR (fun f i h => WA_in h)
  have hS : va_S (WA ad (cvC σ) s.heap.size) s.heap s.heap [] := va_S.rf
  generalize WA ad (cvC σ) s.heap.size = A0 at hA hR hS hX ⊢
  have hC : CTX p s m _ meth c cX5_demandProduct 1 RX5 none := hC
  obtain ⟨hx, hb, hml, hown, hts, hr, hlk⟩ := id hC
  have hl : lv_has ls 1 [(0, .int a1)] := hl
  have hKA : KA [] ad ad σ σ := KA_rf _ _ _
  have hm : mc = 0 + mc := (Nat.zero_add mc).symm
  have hn : ms = 0 + ms := (Nat.zero_add ms).symm
  unfold fX5_demandProduct at hf
  refine lv_iload_n hx hb dX5_demandProduct_0 rfl (lv_at hl 0 rfl) ?_
  refine lv_iconst (v := 0) hx hb dX5_demandProduct_1 (by decide) ?_
  refine lv_iconst (v := 2) hx hb dX5_demandProduct_2 (by decide) ?_
  rcases xb_of hf with ⟨e2, m3, n4, hcq1, rfl, hem, hen⟩ | ⟨q1, m3, n4, m5, n6, hcq1, hf, hem, hen⟩
  · refine kcx_v (vx_runS (As := [.int a1, .int 0, .int 2]) (rest := []) ⟨hx, hb, hml, hown, hts⟩ (mX5_demandWithin l hst D dA ad σ _ x mi a1 0 2 (.inl e2) m3 n4 hcq1) (va_cwS 3 hts gX5_48 rfl rfl rfl (by decide +kernel) ⟨Nat.le_of_ble_eq_true rfl, Nat.le_of_ble_eq_true rfl⟩) (preSA_of hA hR hS hK hX hLX _) rfl rfl hl.1 rfl (lv_room (Nat.le_of_ble_eq_true rfl)) dX5_demandProduct_3 ⟨nleq hm hem, nleq hn hen⟩) hA hR hS (fun k σ' ad' H1 locs1 E ce q9 eo hEk hka hLX hR hS h1 h2 h3 => ?_) (fun _ _ _ _ eo => nomatch eo)
    cases eo
    exact passx hC hE hEk (KA_tr hKA hka (by decide)) hLX hR hS h1 h2 h3 (nleq hm hem) (nleq hn hen)
  refine kcx_vR (q := q1) (vx_runS (As := [.int a1, .int 0, .int 2]) (rest := []) ⟨hx, hb, hml, hown, hts⟩ (mX5_demandWithin l hst D dA ad σ _ x mi a1 0 2 (.inr q1) m3 n4 hcq1) (va_cwS 3 hts gX5_48 rfl rfl rfl (by decide +kernel) ⟨Nat.le_of_ble_eq_true rfl, Nat.le_of_ble_eq_true rfl⟩) (preSA_of hA hR hS hK hX hLX _) rfl rfl hl.1 rfl (lv_room (Nat.le_of_ble_eq_true rfl)) dX5_demandProduct_3 ⟨nle hm hem, nle hn hen⟩) hA hR hS (fun ad7 H locs hka hLX hR hS => ?_)
  have hKA := KA_tr hKA hka (by decide)
  have hm := nadd hm hem
  have hn := nadd hn hen
  cases hf
  exact retx_v hC hKA hLX hR hS (nfin hm) (nfin hn) dX5_demandProduct_6
def fX5_demandKind (σ : St) (a1 : Int32) : Option ((XO (St)) × Nat × Nat) := xb (fX5_demandWithin σ a1 0 1) (fun q1 => some (.inr q1, 0, 0))
set_option maxHeartbeats 4000000 in
set_option maxRecDepth 100000 in
theorem mX5_demandKind (l : Launch) (hst : l.stackTraces = false) (D : va_G) (dA : Nat → ClassId) (ad : Nat → Nat → Nat) (σ : St) (sz x mi : Nat) (a1 : Int32) (o : XO (St)) (mc ms : Nat) (hf : fX5_demandKind σ a1 = some (o, mc, ms)) : vx_Met l yX5_demandKind (WSy yX5_demandKind cX5_demandKind 1 none) ({ frames := 7, cells := mc, slots := ms, locals := 112 } : Room) (va_Pc [.int a1] (PreA D dA ad σ x mi sz)) (QXv o D dA [] ad σ x (WA ad (cvC σ) sz)) (XXC o D dA [] ad σ x (WA ad (cvC σ) sz)) mc ms (WA ad (cvC σ) sz) := by
  refine metx_of (by decide) (Nat.le_of_ble_eq_true rfl) ?_
  intro p e s m below meth c ls hC hE hB hl
  obtain ⟨rfl, hR, hK, hX, hLX⟩ := hB
  have hA : ∀ q : Nat, s.heap.size ≤ q → WA ad (cvC σ) s.heap.size q := fun q h => Or.inr h
  have hR := WW_fit (B := WA ad (cvC σ) s.heap.size) hR (fun f i h => WA_in h)
  have hS : va_S (WA ad (cvC σ) s.heap.size) s.heap s.heap [] := va_S.rf
  generalize WA ad (cvC σ) s.heap.size = A0 at hA hR hS hX ⊢
  have hC : CTX p s m _ meth c cX5_demandKind 1 RX5 none := hC
  obtain ⟨hx, hb, hml, hown, hts, hr, hlk⟩ := id hC
  have hl : lv_has ls 1 [(0, .int a1)] := hl
  have hKA : KA [] ad ad σ σ := KA_rf _ _ _
  have hm : mc = 0 + mc := (Nat.zero_add mc).symm
  have hn : ms = 0 + ms := (Nat.zero_add ms).symm
  unfold fX5_demandKind at hf
  refine lv_iload_n hx hb dX5_demandKind_0 rfl (lv_at hl 0 rfl) ?_
  refine lv_iconst (v := 0) hx hb dX5_demandKind_1 (by decide) ?_
  refine lv_iconst (v := 1) hx hb dX5_demandKind_2 (by decide) ?_
  rcases xb_of hf with ⟨e2, m3, n4, hcq1, rfl, hem, hen⟩ | ⟨q1, m3, n4, m5, n6, hcq1, hf, hem, hen⟩
  · refine kcx_v (vx_runS (As := [.int a1, .int 0, .int 1]) (rest := []) ⟨hx, hb, hml, hown, hts⟩ (mX5_demandWithin l hst D dA ad σ _ x mi a1 0 1 (.inl e2) m3 n4 hcq1) (va_cwS 3 hts gX5_48 rfl rfl rfl (by decide +kernel) ⟨Nat.le_of_ble_eq_true rfl, Nat.le_of_ble_eq_true rfl⟩) (preSA_of hA hR hS hK hX hLX _) rfl rfl hl.1 rfl (lv_room (Nat.le_of_ble_eq_true rfl)) dX5_demandKind_3 ⟨nleq hm hem, nleq hn hen⟩) hA hR hS (fun k σ' ad' H1 locs1 E ce q9 eo hEk hka hLX hR hS h1 h2 h3 => ?_) (fun _ _ _ _ eo => nomatch eo)
    cases eo
    exact passx hC hE hEk (KA_tr hKA hka (by decide)) hLX hR hS h1 h2 h3 (nleq hm hem) (nleq hn hen)
  refine kcx_vR (q := q1) (vx_runS (As := [.int a1, .int 0, .int 1]) (rest := []) ⟨hx, hb, hml, hown, hts⟩ (mX5_demandWithin l hst D dA ad σ _ x mi a1 0 1 (.inr q1) m3 n4 hcq1) (va_cwS 3 hts gX5_48 rfl rfl rfl (by decide +kernel) ⟨Nat.le_of_ble_eq_true rfl, Nat.le_of_ble_eq_true rfl⟩) (preSA_of hA hR hS hK hX hLX _) rfl rfl hl.1 rfl (lv_room (Nat.le_of_ble_eq_true rfl)) dX5_demandKind_3 ⟨nle hm hem, nle hn hen⟩) hA hR hS (fun ad7 H locs hka hLX hR hS => ?_)
  have hKA := KA_tr hKA hka (by decide)
  have hm := nadd hm hem
  have hn := nadd hn hen
  cases hf
  exact retx_v hC hKA hLX hR hS (nfin hm) (nfin hn) dX5_demandKind_6
def fX5_demandState (σ : St) (a1 : Int32) : Option ((XO (St)) × Nat × Nat) := if ¬ a1 = 0 then some (.inr σ, 0, 0) else some (.inl (2, σ), 1, 6)
set_option maxHeartbeats 4000000 in
set_option maxRecDepth 100000 in
theorem mX5_demandState (l : Launch) (hst : l.stackTraces = false) (D : va_G) (dA : Nat → ClassId) (ad : Nat → Nat → Nat) (σ : St) (sz x mi : Nat) (a1 : Int32) (o : XO (St)) (mc ms : Nat) (hf : fX5_demandState σ a1 = some (o, mc, ms)) : vx_Met l yX5_demandState (WSy yX5_demandState cX5_demandState 1 none) ({ frames := 6, cells := mc, slots := ms, locals := 90 } : Room) (va_Pc [.int a1] (PreA D dA ad σ x mi sz)) (QXv o D dA [] ad σ x (WA ad (cvC σ) sz)) (XXC o D dA [] ad σ x (WA ad (cvC σ) sz)) mc ms (WA ad (cvC σ) sz) := by
  refine metx_of (by decide) (Nat.le_of_ble_eq_true rfl) ?_
  intro p e s m below meth c ls hC hE hB hl
  obtain ⟨rfl, hR, hK, hX, hLX⟩ := hB
  have hA : ∀ q : Nat, s.heap.size ≤ q → WA ad (cvC σ) s.heap.size q := fun q h => Or.inr h
  have hR := WW_fit (B := WA ad (cvC σ) s.heap.size) hR (fun f i h => WA_in h)
  have hS : va_S (WA ad (cvC σ) s.heap.size) s.heap s.heap [] := va_S.rf
  generalize WA ad (cvC σ) s.heap.size = A0 at hA hR hS hX ⊢
  have hC : CTX p s m _ meth c cX5_demandState 1 RX5 none := hC
  obtain ⟨hx, hb, hml, hown, hts, hr, hlk⟩ := id hC
  have hl : lv_has ls 1 [(0, .int a1)] := hl
  have hKA : KA [] ad ad σ σ := KA_rf _ _ _
  have hm : mc = 0 + mc := (Nat.zero_add mc).symm
  have hn : ms = 0 + ms := (Nat.zero_add ms).symm
  unfold fX5_demandState at hf
  refine lv_iload_n hx hb dX5_demandState_0 rfl (lv_at hl 0 rfl) ?_
  refine lv_if_ne (tgt := 12) hx hb dX5_demandState_1 (by decide) (fun c1 => ?_) (fun c1 => ?_)
  · have hf := if_of_pos hf c1
    cases hf
    exact retx_v hC hKA hLX hR hS (nfin hm) (nfin hn) dX5_demandState_12
  · have hf := if_of_neg hf (fun q => q c1)
    cases hf
    exact thrx 2 hC hE hst hK hX hKA hLX hR hS fit_2 q_358 q_50 atX5_2 hl.1 dX5_demandState_4 dX5_demandState_7 dX5_demandState_8 dX5_demandState_11 (Nat.le_of_ble_eq_true rfl) (Nat.le_of_ble_eq_true rfl) (Nat.le_of_eq hm.symm) (Nat.le_of_eq hn.symm) (Nat.le_of_eq hm.symm) (Nat.le_of_eq hn.symm)
def fX5_demandOrder (σ : St) (a1 : Int32) : Option ((XO (St)) × Nat × Nat) := if a1 < 0 then some (.inl (3, σ), 1, 6) else if a1 < (nI (gN σ 0)) then some (.inr σ, 0, 0) else some (.inl (3, σ), 1, 6)
set_option maxHeartbeats 4000000 in
set_option maxRecDepth 100000 in
theorem mX5_demandOrder (l : Launch) (hst : l.stackTraces = false) (D : va_G) (dA : Nat → ClassId) (ad : Nat → Nat → Nat) (σ : St) (sz x mi : Nat) (a1 : Int32) (o : XO (St)) (mc ms : Nat) (hf : fX5_demandOrder σ a1 = some (o, mc, ms)) : vx_Met l yX5_demandOrder (WSy yX5_demandOrder cX5_demandOrder 2 none) ({ frames := 6, cells := mc, slots := ms, locals := 90 } : Room) (va_Pc [.ref (ad 0 0), .int a1] (PreA D dA ad σ x mi sz)) (QXv o D dA [] ad σ x (WA ad (cvC σ) sz)) (XXC o D dA [] ad σ x (WA ad (cvC σ) sz)) mc ms (WA ad (cvC σ) sz) := by
  refine metx_of (by decide) (Nat.le_of_ble_eq_true rfl) ?_
  intro p e s m below meth c ls hC hE hB hl
  obtain ⟨rfl, hR, hK, hX, hLX⟩ := hB
  have hA : ∀ q : Nat, s.heap.size ≤ q → WA ad (cvC σ) s.heap.size q := fun q h => Or.inr h
  have hR := WW_fit (B := WA ad (cvC σ) s.heap.size) hR (fun f i h => WA_in h)
  have hS : va_S (WA ad (cvC σ) s.heap.size) s.heap s.heap [] := va_S.rf
  generalize WA ad (cvC σ) s.heap.size = A0 at hA hR hS hX ⊢
  have hC : CTX p s m _ meth c cX5_demandOrder 2 RX5 none := hC
  obtain ⟨hx, hb, hml, hown, hts, hr, hlk⟩ := id hC
  have hl : lv_has ls 2 [(0, .ref (ad 0 0)), (1, .int a1)] := hl
  have hKA : KA [] ad ad σ σ := KA_rf _ _ _
  have hm : mc = 0 + mc := (Nat.zero_add mc).symm
  have hn : ms = 0 + ms := (Nat.zero_add ms).symm
  unfold fX5_demandOrder at hf
  refine lv_iload_n hx hb dX5_demandOrder_0 rfl (lv_at hl 1 rfl) ?_
  refine lv_if_lt (tgt := 15) hx hb dX5_demandOrder_1 (by decide) (fun c1 => ?_) (fun c1 => ?_)
  · have hf := if_of_pos hf c1
    cases hf
    exact thrx 3 hC hE hst hK hX hKA hLX hR hS fit_3 q_201 q_49 atX5_3 hl.1 dX5_demandOrder_15 dX5_demandOrder_18 dX5_demandOrder_19 dX5_demandOrder_22 (Nat.le_of_ble_eq_true rfl) (Nat.le_of_ble_eq_true rfl) (Nat.le_of_eq hm.symm) (Nat.le_of_eq hn.symm) (Nat.le_of_eq hm.symm) (Nat.le_of_eq hn.symm)
  · have hf := if_of_neg hf c1
    refine lv_iload_n hx hb dX5_demandOrder_4 rfl (lv_at hl 1 rfl) ?_
    refine lv_aload_n hx hb dX5_demandOrder_5 rfl (lv_at hl 0 rfl) ?_
    refine va_get (D := D) (ci := 6) (C := RX5) (T := TX5) (N := 8) hx hb hts iuX5 hown hK.1 (WW_one hR (f := 0) (i := 0) rfl) 0 rfl rfl 3 (by decide) (hts _ q_167) (fun _ h9 => h9) rfl dX5_demandOrder_6 ?_
    refine ls_size12 (rest := [.int a1]) hC hK hA hR hS hl q_197 ⟨Nat.le_of_ble_eq_true rfl, Nat.le_of_ble_eq_true rfl⟩ (lv_room (Nat.le_of_ble_eq_true rfl)) ⟨nle0 hm, nle0 hn⟩ dX5_demandOrder_9 (fun H locs hR hS => ?_)
    refine lv_icmp_lt (tgt := 23) hx hb dX5_demandOrder_12 (by decide) (fun c2 => ?_) (fun c2 => ?_)
    · have hf := if_of_pos hf c2
      cases hf
      exact retx_v hC hKA hLX hR hS (nfin hm) (nfin hn) dX5_demandOrder_23
    · have hf := if_of_neg hf c2
      cases hf
      exact thrx 3 hC hE hst hK hX hKA hLX hR hS fit_3 q_201 q_49 atX5_3 hl.1 dX5_demandOrder_15 dX5_demandOrder_18 dX5_demandOrder_19 dX5_demandOrder_22 (Nat.le_of_ble_eq_true rfl) (Nat.le_of_ble_eq_true rfl) (Nat.le_of_eq hm.symm) (Nat.le_of_eq hn.symm) (Nat.le_of_eq hm.symm) (Nat.le_of_eq hn.symm)
def fX5_tell (σ : St) (a1 : Int32) (a2 : Int32) : Option ((XO (Int32 × St)) × Nat × Nat) := xb (fX5_demandProduct σ a1) (fun q1 => xb (fX5_demandWithin q1 a2 1 9999) (fun q9 => gd (vin a1 3) (kst (gI q9 2 a1.toNatClampNeg 0) (fun x18 => some (.inr (x18, pI q9 2 a1.toNatClampNeg 0 a2), 0, 0)))))
set_option maxHeartbeats 4000000 in
set_option maxRecDepth 100000 in
theorem mX5_tell (l : Launch) (hst : l.stackTraces = false) (D : va_G) (dA : Nat → ClassId) (ad : Nat → Nat → Nat) (σ : St) (sz x mi : Nat) (a1 : Int32) (a2 : Int32) (o : XO (Int32 × St)) (mc ms : Nat) (hf : fX5_tell σ a1 a2 = some (o, mc, ms)) : vx_Met l yX5_tell (WSy yX5_tell cX5_tell 4 (some .int)) ({ frames := 8, cells := mc, slots := ms, locals := 132 } : Room) (va_Pc [.ref (ad 0 0), .int a1, .int a2] (PreA D dA ad σ x mi sz)) (QXi o D dA [] ad σ x (WA ad (cvC σ) sz)) (XXC o D dA [] ad σ x (WA ad (cvC σ) sz)) mc ms (WA ad (cvC σ) sz) := by
  refine metx_of (by decide) (Nat.le_of_ble_eq_true rfl) ?_
  intro p e s m below meth c ls hC hE hB hl
  obtain ⟨rfl, hR, hK, hX, hLX⟩ := hB
  have hA : ∀ q : Nat, s.heap.size ≤ q → WA ad (cvC σ) s.heap.size q := fun q h => Or.inr h
  have hR := WW_fit (B := WA ad (cvC σ) s.heap.size) hR (fun f i h => WA_in h)
  have hS : va_S (WA ad (cvC σ) s.heap.size) s.heap s.heap [] := va_S.rf
  generalize WA ad (cvC σ) s.heap.size = A0 at hA hR hS hX ⊢
  have hC : CTX p s m _ meth c cX5_tell 4 RX5 (some .int) := hC
  obtain ⟨hx, hb, hml, hown, hts, hr, hlk⟩ := id hC
  have hl : lv_has ls 4 [(0, .ref (ad 0 0)), (1, .int a1), (2, .int a2)] := hl
  have hKA : KA [] ad ad σ σ := KA_rf _ _ _
  have hm : mc = 0 + mc := (Nat.zero_add mc).symm
  have hn : ms = 0 + ms := (Nat.zero_add ms).symm
  unfold fX5_tell at hf
  refine lv_iload_n hx hb dX5_tell_0 rfl (lv_at hl 1 rfl) ?_
  rcases xb_of hf with ⟨e2, m3, n4, hcq1, rfl, hem, hen⟩ | ⟨q1, m3, n4, m5, n6, hcq1, hf, hem, hen⟩
  · refine kcx_v (vx_runS (As := [.int a1]) (rest := []) ⟨hx, hb, hml, hown, hts⟩ (mX5_demandProduct l hst D dA ad σ _ x mi a1 (.inl e2) m3 n4 hcq1) (va_cwS 1 hts gX5_44 rfl rfl rfl (by decide +kernel) ⟨Nat.le_of_ble_eq_true rfl, Nat.le_of_ble_eq_true rfl⟩) (preSA_of hA hR hS hK hX hLX _) rfl rfl hl.1 rfl (lv_room (Nat.le_of_ble_eq_true rfl)) dX5_tell_1 ⟨nleq hm hem, nleq hn hen⟩) hA hR hS (fun k σ' ad' H1 locs1 E ce q9 eo hEk hka hLX hR hS h1 h2 h3 => ?_) (fun _ _ _ _ eo => nomatch eo)
    cases eo
    exact passx hC hE hEk (KA_tr hKA hka (by decide)) hLX hR hS h1 h2 h3 (nleq hm hem) (nleq hn hen)
  refine kcx_vR (q := q1) (vx_runS (As := [.int a1]) (rest := []) ⟨hx, hb, hml, hown, hts⟩ (mX5_demandProduct l hst D dA ad σ _ x mi a1 (.inr q1) m3 n4 hcq1) (va_cwS 1 hts gX5_44 rfl rfl rfl (by decide +kernel) ⟨Nat.le_of_ble_eq_true rfl, Nat.le_of_ble_eq_true rfl⟩) (preSA_of hA hR hS hK hX hLX _) rfl rfl hl.1 rfl (lv_room (Nat.le_of_ble_eq_true rfl)) dX5_tell_1 ⟨nle hm hem, nle hn hen⟩) hA hR hS (fun ad7 H locs hka hLX hR hS => ?_)
  have e8 := (hka 0 0 rfl (by decide)).1
  have hl : lv_has ls 4 [(0, .ref (ad7 0 0)), (1, .int a1), (2, .int a2)] := by rw [e8]; exact hl
  have hKA := KA_tr hKA hka (by decide)
  have hm := nadd hm hem
  have hn := nadd hn hen
  refine lv_iload_n hx hb dX5_tell_4 rfl (lv_at hl 2 rfl) ?_
  refine lv_iconst (v := 1) hx hb dX5_tell_5 (by decide) ?_
  refine lv_sipush (v := 9999) hx hb dX5_tell_6 (by decide) ?_
  rcases xb_of hf with ⟨e10, m11, n12, hcq9, rfl, hem, hen⟩ | ⟨q9, m11, n12, m13, n14, hcq9, hf, hem, hen⟩
  · refine kcx_v (vx_runS (As := [.int a2, .int 1, .int 9999]) (rest := []) ⟨hx, hb, hml, hown, hts⟩ (mX5_demandWithin l hst D dA ad7 q1 _ x mi a2 1 9999 (.inl e10) m11 n12 hcq9) (va_cwS 3 hts gX5_48 rfl rfl rfl (by decide +kernel) ⟨Nat.le_of_ble_eq_true rfl, Nat.le_of_ble_eq_true rfl⟩) (preSA_of hA hR hS hK hX hLX _) rfl rfl hl.1 rfl (lv_room (Nat.le_of_ble_eq_true rfl)) dX5_tell_9 ⟨nleq hm hem, nleq hn hen⟩) hA hR hS (fun k σ' ad' H1 locs1 E ce q9 eo hEk hka hLX hR hS h1 h2 h3 => ?_) (fun _ _ _ _ eo => nomatch eo)
    cases eo
    exact passx hC hE hEk (KA_tr hKA hka (by decide)) hLX hR hS h1 h2 h3 (nleq hm hem) (nleq hn hen)
  refine kcx_vR (q := q9) (vx_runS (As := [.int a2, .int 1, .int 9999]) (rest := []) ⟨hx, hb, hml, hown, hts⟩ (mX5_demandWithin l hst D dA ad7 q1 _ x mi a2 1 9999 (.inr q9) m11 n12 hcq9) (va_cwS 3 hts gX5_48 rfl rfl rfl (by decide +kernel) ⟨Nat.le_of_ble_eq_true rfl, Nat.le_of_ble_eq_true rfl⟩) (preSA_of hA hR hS hK hX hLX _) rfl rfl hl.1 rfl (lv_room (Nat.le_of_ble_eq_true rfl)) dX5_tell_9 ⟨nle hm hem, nle hn hen⟩) hA hR hS (fun ad15 H locs hka hLX hR hS => ?_)
  have e16 := (hka 0 0 rfl (by decide)).1
  have hl : lv_has ls 4 [(0, .ref (ad15 0 0)), (1, .int a1), (2, .int a2)] := by rw [e16]; exact hl
  have hKA := KA_tr hKA hka (by decide)
  have hm := nadd hm hem
  have hn := nadd hn hen
  refine lv_aload_n hx hb dX5_tell_12 rfl (lv_at hl 0 rfl) ?_
  refine va_get (D := D) (ci := 6) (C := RX5) (T := TX5) (N := 8) hx hb hts iuX5 hown hK.1 (WW_one hR (f := 0) (i := 0) rfl) 0 rfl rfl 1 (by decide) (hts _ q_165) (fun _ h9 => h9) rfl dX5_tell_13 ?_
  refine lv_iload_n hx hb dX5_tell_16 rfl (lv_at hl 1 rfl) ?_
  obtain ⟨g17, hf⟩ := gd_of hf
  refine va_aldq (C := RX3) hx hb hK.1 (WW_one hR (f := 6) (i := 0) rfl) 0 4 rfl rfl g17 dX5_tell_17 ?_
  refine va_getN (D := D) (ci := 4) (C := RX3) (T := TX3) (N := 3) hx hb hts iuX3 hown hK.1 (WW_one hR (f := 7) (i := a1.toNatClampNeg) (vin_lt g17)) 0 rfl rfl 0 (by decide) (nw_f hK.2 q_139) (fun _ h9 => h9) rfl dX5_tell_18 ?_
  refine lv_topi (fun x18 hx18 => ?_)
  have hf := kst_eq hx18 hf
  refine lv_istore_n (lv' := [(3, .int x18), (0, .ref (ad15 0 0)), (1, .int a1), (2, .int a2)]) hx hb dX5_tell_21 rfl hl (by decide) rfl (fun ls hl => ?_)
  refine lv_aload_n hx hb dX5_tell_22 rfl (lv_at hl 1 rfl) ?_
  refine va_get (D := D) (ci := 6) (C := RX5) (T := TX5) (N := 8) hx hb hts iuX5 hown hK.1 (WW_one hR (f := 0) (i := 0) rfl) 0 rfl rfl 1 (by decide) (hts _ q_165) (fun _ h9 => h9) rfl dX5_tell_23 ?_
  refine lv_iload_n hx hb dX5_tell_26 rfl (lv_at hl 2 rfl) ?_
  refine va_aldq (C := RX3) hx hb hK.1 (WW_one hR (f := 6) (i := 0) rfl) 0 4 rfl rfl g17 dX5_tell_27 ?_
  refine lv_iload_n hx hb dX5_tell_28 rfl (lv_at hl 3 rfl) ?_
  refine ww_putN (D := D) (ci := 4) (C := RX3) (T := TX3) (N := 3) (ty := .int) hx hb hts iuX3 tyX3 tyX3_ok nmX3 hown hK.1 hR hS (f := 7) (i := a1.toNatClampNeg) (vin_lt g17) rfl rfl 0 (by decide) (nw_f hK.2 q_139) (fun _ h9 => h9) rfl (by decide +kernel) rfl rfl (Nat.le_of_ble_eq_true rfl) dX5_tell_29 (fun H locs hR hS => ?_)
  have hR := HC_Product_price a1.toNatClampNeg a2 hR
  have hKA := KA_same (b := pI q9 2 a1.toNatClampNeg 0 a2) hKA ⟨rfl, rfl, rfl, rfl, rfl, rfl, rfl⟩
  have hLX := LX_same (b := pI q9 2 a1.toNatClampNeg 0 a2) hLX ⟨rfl, rfl, rfl, rfl, rfl, rfl, rfl⟩
  refine lv_iload_n hx hb dX5_tell_32 rfl (lv_at hl 0 rfl) ?_
  cases hf
  exact retx_i hC hKA hLX hR hS (nfin hm) (nfin hn) dX5_tell_33
def fX5_setMove (σ : St) (a1 : Int32) (a2 : Int32) (a3 : Int32) : Option ((XO (Int32 × St)) × Nat × Nat) := xb (fX5_demandWithin σ a1 0 3) (fun q1 => xb (fX5_demandProduct q1 a2) (fun q9 => xb (fX5_demandWithin q9 a3 (-500) 500) (fun q17 => gd (vin a2 3) (gd (vin a1 4) (kst (gI q17 8 a2.toNatClampNeg a1.toNatClampNeg) (fun x27 => some (.inr (x27, pI q17 8 a2.toNatClampNeg a1.toNatClampNeg a3), 0, 0)))))))
set_option maxHeartbeats 4000000 in
set_option maxRecDepth 100000 in
theorem mX5_setMove (l : Launch) (hst : l.stackTraces = false) (D : va_G) (dA : Nat → ClassId) (ad : Nat → Nat → Nat) (σ : St) (sz x mi : Nat) (a1 : Int32) (a2 : Int32) (a3 : Int32) (o : XO (Int32 × St)) (mc ms : Nat) (hf : fX5_setMove σ a1 a2 a3 = some (o, mc, ms)) : vx_Met l yX5_setMove (WSy yX5_setMove cX5_setMove 5 (some .int)) ({ frames := 8, cells := mc, slots := ms, locals := 132 } : Room) (va_Pc [.ref (ad 0 0), .int a1, .int a2, .int a3] (PreA D dA ad σ x mi sz)) (QXi o D dA [] ad σ x (WA ad (cvC σ) sz)) (XXC o D dA [] ad σ x (WA ad (cvC σ) sz)) mc ms (WA ad (cvC σ) sz) := by
  refine metx_of (by decide) (Nat.le_of_ble_eq_true rfl) ?_
  intro p e s m below meth c ls hC hE hB hl
  obtain ⟨rfl, hR, hK, hX, hLX⟩ := hB
  have hA : ∀ q : Nat, s.heap.size ≤ q → WA ad (cvC σ) s.heap.size q := fun q h => Or.inr h
  have hR := WW_fit (B := WA ad (cvC σ) s.heap.size) hR (fun f i h => WA_in h)
  have hS : va_S (WA ad (cvC σ) s.heap.size) s.heap s.heap [] := va_S.rf
  generalize WA ad (cvC σ) s.heap.size = A0 at hA hR hS hX ⊢
  have hC : CTX p s m _ meth c cX5_setMove 5 RX5 (some .int) := hC
  obtain ⟨hx, hb, hml, hown, hts, hr, hlk⟩ := id hC
  have hl : lv_has ls 5 [(0, .ref (ad 0 0)), (1, .int a1), (2, .int a2), (3, .int a3)] := hl
  have hKA : KA [] ad ad σ σ := KA_rf _ _ _
  have hm : mc = 0 + mc := (Nat.zero_add mc).symm
  have hn : ms = 0 + ms := (Nat.zero_add ms).symm
  unfold fX5_setMove at hf
  refine lv_iload_n hx hb dX5_setMove_0 rfl (lv_at hl 1 rfl) ?_
  refine lv_iconst (v := 0) hx hb dX5_setMove_1 (by decide) ?_
  refine lv_iconst (v := 3) hx hb dX5_setMove_2 (by decide) ?_
  rcases xb_of hf with ⟨e2, m3, n4, hcq1, rfl, hem, hen⟩ | ⟨q1, m3, n4, m5, n6, hcq1, hf, hem, hen⟩
  · refine kcx_v (vx_runS (As := [.int a1, .int 0, .int 3]) (rest := []) ⟨hx, hb, hml, hown, hts⟩ (mX5_demandWithin l hst D dA ad σ _ x mi a1 0 3 (.inl e2) m3 n4 hcq1) (va_cwS 3 hts gX5_48 rfl rfl rfl (by decide +kernel) ⟨Nat.le_of_ble_eq_true rfl, Nat.le_of_ble_eq_true rfl⟩) (preSA_of hA hR hS hK hX hLX _) rfl rfl hl.1 rfl (lv_room (Nat.le_of_ble_eq_true rfl)) dX5_setMove_3 ⟨nleq hm hem, nleq hn hen⟩) hA hR hS (fun k σ' ad' H1 locs1 E ce q9 eo hEk hka hLX hR hS h1 h2 h3 => ?_) (fun _ _ _ _ eo => nomatch eo)
    cases eo
    exact passx hC hE hEk (KA_tr hKA hka (by decide)) hLX hR hS h1 h2 h3 (nleq hm hem) (nleq hn hen)
  refine kcx_vR (q := q1) (vx_runS (As := [.int a1, .int 0, .int 3]) (rest := []) ⟨hx, hb, hml, hown, hts⟩ (mX5_demandWithin l hst D dA ad σ _ x mi a1 0 3 (.inr q1) m3 n4 hcq1) (va_cwS 3 hts gX5_48 rfl rfl rfl (by decide +kernel) ⟨Nat.le_of_ble_eq_true rfl, Nat.le_of_ble_eq_true rfl⟩) (preSA_of hA hR hS hK hX hLX _) rfl rfl hl.1 rfl (lv_room (Nat.le_of_ble_eq_true rfl)) dX5_setMove_3 ⟨nle hm hem, nle hn hen⟩) hA hR hS (fun ad7 H locs hka hLX hR hS => ?_)
  have e8 := (hka 0 0 rfl (by decide)).1
  have hl : lv_has ls 5 [(0, .ref (ad7 0 0)), (1, .int a1), (2, .int a2), (3, .int a3)] := by rw [e8]; exact hl
  have hKA := KA_tr hKA hka (by decide)
  have hm := nadd hm hem
  have hn := nadd hn hen
  refine lv_iload_n hx hb dX5_setMove_6 rfl (lv_at hl 2 rfl) ?_
  rcases xb_of hf with ⟨e10, m11, n12, hcq9, rfl, hem, hen⟩ | ⟨q9, m11, n12, m13, n14, hcq9, hf, hem, hen⟩
  · refine kcx_v (vx_runS (As := [.int a2]) (rest := []) ⟨hx, hb, hml, hown, hts⟩ (mX5_demandProduct l hst D dA ad7 q1 _ x mi a2 (.inl e10) m11 n12 hcq9) (va_cwS 1 hts gX5_44 rfl rfl rfl (by decide +kernel) ⟨Nat.le_of_ble_eq_true rfl, Nat.le_of_ble_eq_true rfl⟩) (preSA_of hA hR hS hK hX hLX _) rfl rfl hl.1 rfl (lv_room (Nat.le_of_ble_eq_true rfl)) dX5_setMove_7 ⟨nleq hm hem, nleq hn hen⟩) hA hR hS (fun k σ' ad' H1 locs1 E ce q9 eo hEk hka hLX hR hS h1 h2 h3 => ?_) (fun _ _ _ _ eo => nomatch eo)
    cases eo
    exact passx hC hE hEk (KA_tr hKA hka (by decide)) hLX hR hS h1 h2 h3 (nleq hm hem) (nleq hn hen)
  refine kcx_vR (q := q9) (vx_runS (As := [.int a2]) (rest := []) ⟨hx, hb, hml, hown, hts⟩ (mX5_demandProduct l hst D dA ad7 q1 _ x mi a2 (.inr q9) m11 n12 hcq9) (va_cwS 1 hts gX5_44 rfl rfl rfl (by decide +kernel) ⟨Nat.le_of_ble_eq_true rfl, Nat.le_of_ble_eq_true rfl⟩) (preSA_of hA hR hS hK hX hLX _) rfl rfl hl.1 rfl (lv_room (Nat.le_of_ble_eq_true rfl)) dX5_setMove_7 ⟨nle hm hem, nle hn hen⟩) hA hR hS (fun ad15 H locs hka hLX hR hS => ?_)
  have e16 := (hka 0 0 rfl (by decide)).1
  have hl : lv_has ls 5 [(0, .ref (ad15 0 0)), (1, .int a1), (2, .int a2), (3, .int a3)] := by rw [e16]; exact hl
  have hKA := KA_tr hKA hka (by decide)
  have hm := nadd hm hem
  have hn := nadd hn hen
  refine lv_iload_n hx hb dX5_setMove_10 rfl (lv_at hl 3 rfl) ?_
  refine lv_sipush (v := (-500)) hx hb dX5_setMove_11 (by decide) ?_
  refine lv_sipush (v := 500) hx hb dX5_setMove_14 (by decide) ?_
  rcases xb_of hf with ⟨e18, m19, n20, hcq17, rfl, hem, hen⟩ | ⟨q17, m19, n20, m21, n22, hcq17, hf, hem, hen⟩
  · refine kcx_v (vx_runS (As := [.int a3, .int (-500), .int 500]) (rest := []) ⟨hx, hb, hml, hown, hts⟩ (mX5_demandWithin l hst D dA ad15 q9 _ x mi a3 (-500) 500 (.inl e18) m19 n20 hcq17) (va_cwS 3 hts gX5_48 rfl rfl rfl (by decide +kernel) ⟨Nat.le_of_ble_eq_true rfl, Nat.le_of_ble_eq_true rfl⟩) (preSA_of hA hR hS hK hX hLX _) rfl rfl hl.1 rfl (lv_room (Nat.le_of_ble_eq_true rfl)) dX5_setMove_17 ⟨nleq hm hem, nleq hn hen⟩) hA hR hS (fun k σ' ad' H1 locs1 E ce q9 eo hEk hka hLX hR hS h1 h2 h3 => ?_) (fun _ _ _ _ eo => nomatch eo)
    cases eo
    exact passx hC hE hEk (KA_tr hKA hka (by decide)) hLX hR hS h1 h2 h3 (nleq hm hem) (nleq hn hen)
  refine kcx_vR (q := q17) (vx_runS (As := [.int a3, .int (-500), .int 500]) (rest := []) ⟨hx, hb, hml, hown, hts⟩ (mX5_demandWithin l hst D dA ad15 q9 _ x mi a3 (-500) 500 (.inr q17) m19 n20 hcq17) (va_cwS 3 hts gX5_48 rfl rfl rfl (by decide +kernel) ⟨Nat.le_of_ble_eq_true rfl, Nat.le_of_ble_eq_true rfl⟩) (preSA_of hA hR hS hK hX hLX _) rfl rfl hl.1 rfl (lv_room (Nat.le_of_ble_eq_true rfl)) dX5_setMove_17 ⟨nle hm hem, nle hn hen⟩) hA hR hS (fun ad23 H locs hka hLX hR hS => ?_)
  have e24 := (hka 0 0 rfl (by decide)).1
  have hl : lv_has ls 5 [(0, .ref (ad23 0 0)), (1, .int a1), (2, .int a2), (3, .int a3)] := by rw [e24]; exact hl
  have hKA := KA_tr hKA hka (by decide)
  have hm := nadd hm hem
  have hn := nadd hn hen
  refine lv_aload_n hx hb dX5_setMove_20 rfl (lv_at hl 0 rfl) ?_
  refine va_get (D := D) (ci := 6) (C := RX5) (T := TX5) (N := 8) hx hb hts iuX5 hown hK.1 (WW_one hR (f := 0) (i := 0) rfl) 0 rfl rfl 1 (by decide) (hts _ q_165) (fun _ h9 => h9) rfl dX5_setMove_21 ?_
  refine lv_iload_n hx hb dX5_setMove_24 rfl (lv_at hl 2 rfl) ?_
  obtain ⟨g25, hf⟩ := gd_of hf
  refine va_aldq (C := RX3) hx hb hK.1 (WW_one hR (f := 6) (i := 0) rfl) 0 4 rfl rfl g25 dX5_setMove_25 ?_
  refine va_getN (D := D) (ci := 4) (C := RX3) (T := TX3) (N := 3) hx hb hts iuX3 hown hK.1 (WW_one hR (f := 7) (i := a2.toNatClampNeg) (vin_lt g25)) 0 rfl rfl 2 (by decide) (nw_f hK.2 q_142) (fun _ h9 => h9) rfl dX5_setMove_26 ?_
  refine lv_iload_n hx hb dX5_setMove_29 rfl (lv_at hl 1 rfl) ?_
  obtain ⟨g26, hf⟩ := gd_of hf
  refine va_iald hx hb hK.1 (WW_one hR (f := 8) (i := a2.toNatClampNeg) (vin_lt g25)) 0 0 rfl rfl g26 dX5_setMove_30 ?_
  refine lv_topi (fun x27 hx27 => ?_)
  have hf := kst_eq hx27 hf
  refine lv_istore (lv' := [(4, .int x27), (0, .ref (ad23 0 0)), (1, .int a1), (2, .int a2), (3, .int a3)]) hx hb dX5_setMove_31 hl (by decide) rfl (fun ls hl => ?_)
  refine lv_aload_n hx hb dX5_setMove_33 rfl (lv_at hl 1 rfl) ?_
  refine va_get (D := D) (ci := 6) (C := RX5) (T := TX5) (N := 8) hx hb hts iuX5 hown hK.1 (WW_one hR (f := 0) (i := 0) rfl) 0 rfl rfl 1 (by decide) (hts _ q_165) (fun _ h9 => h9) rfl dX5_setMove_34 ?_
  refine lv_iload_n hx hb dX5_setMove_37 rfl (lv_at hl 3 rfl) ?_
  refine va_aldq (C := RX3) hx hb hK.1 (WW_one hR (f := 6) (i := 0) rfl) 0 4 rfl rfl g25 dX5_setMove_38 ?_
  refine va_getN (D := D) (ci := 4) (C := RX3) (T := TX3) (N := 3) hx hb hts iuX3 hown hK.1 (WW_one hR (f := 7) (i := a2.toNatClampNeg) (vin_lt g25)) 0 rfl rfl 2 (by decide) (nw_f hK.2 q_142) (fun _ h9 => h9) rfl dX5_setMove_39 ?_
  refine lv_iload_n hx hb dX5_setMove_42 rfl (lv_at hl 2 rfl) ?_
  refine lv_iload_n hx hb dX5_setMove_43 rfl (lv_at hl 4 rfl) ?_
  refine ww_iast hx hb hK.1 hR hS 0 (f := 8) (j := a2.toNatClampNeg) (vin_lt g25) rfl rfl g26 dX5_setMove_44 (fun H locs hR hS => ?_)
  have hR := HC_row8 a2.toNatClampNeg (a1.toNatClampNeg) a3 hR
  have hKA := KA_same (b := pI q17 8 a2.toNatClampNeg a1.toNatClampNeg a3) hKA ⟨rfl, rfl, rfl, rfl, rfl, rfl, rfl⟩
  have hLX := LX_same (b := pI q17 8 a2.toNatClampNeg a1.toNatClampNeg a3) hLX ⟨rfl, rfl, rfl, rfl, rfl, rfl, rfl⟩
  refine lv_iload hx hb dX5_setMove_45 (lv_at hl 0 rfl) ?_
  cases hf
  exact retx_i hC hKA hLX hR hS (nfin hm) (nfin hn) dX5_setMove_47
def fX5_tellKind_L25 : Nat → St → Int32 → Nat → Int32 → Int32 → Option ((XO (Int32 × St)) × Nat × Nat)
  | 0, _, _, _, _, _ => none
  | n + 1, σ, v4, v3, v1, v2 => if 4 ≤ v4 then gd (vin v1 2) (bd (fX5_haircutBy (pI σ 11 v3 (3 : Int32).toNatClampNeg v2) v3 v2) (fun q20 => some (.inr (gI (pI (pI σ 11 v3 (3 : Int32).toNatClampNeg v2) 6 v1.toNatClampNeg 0 q20) 6 v1.toNatClampNeg 0, pI (pI σ 11 v3 (3 : Int32).toNatClampNeg v2) 6 v1.toNatClampNeg 0 q20), 0, 0))) else gd (vin v4 4) (gd (vin (v4 - 1) 4) (kst (v4 + 1) (fun x23 => fX5_tellKind_L25 n (pI σ 11 v3 (v4 - 1).toNatClampNeg (gI σ 11 v3 v4.toNatClampNeg)) x23 v3 v1 v2)))
set_option maxHeartbeats 4000000 in
set_option maxRecDepth 100000 in
theorem wX5_tellKind_L25 {p : Program} {l : Launch} {e : Env} {s : State} {m : MethodId} {args : Array Value} {below : List Frame} {meth : Method} {c : Code} {D : va_G} {dA : Nat → ClassId} {A0 : Nat → Prop} {x mi mc ms : Nat} {ad0 : Nat → Nat → Nat} {σ0 : St} {o : XO (Int32 × St)} (hC : CTX p s m args meth c cX5_tellKind 5 RX5 (some .int)) (hK : KS D dA s) (hA : ∀ q, s.heap.size ≤ q → A0 q) (hX : EXT x mi A0 s s.heap) (hE : ∀ x ∈ c.exceptionTable.toList, False) (hst : l.stackTraces = false) : ∀ (n : Nat) (H : Heap) (locs : List Loc) (ls : Array Slot) (ad : Nat → Nat → Nat) (c0 s0 mr sr : Nat) (σ : St) (v4 : Int32) (v3 : Nat) (v1 : Int32) (v2 : Int32) (hv3 : cvC σ 11 v3), KA [] ad0 ad σ0 σ → LX ad σ x → mc = c0 + mr → ms = s0 + sr → HC D dA A0 ad σ H → va_S A0 s.heap H locs → lv_has ls 5 [(4, .int v4), (3, .ref (ad 11 v3)), (0, .ref (ad 0 0)), (1, .int v1), (2, .int v2)] → fX5_tellKind_L25 n σ v4 v3 v1 v2 = some (o, mr, sr) → W p l e ({ frames := 8, cells := mc, slots := ms, locals := 132 } : Room) s m args below meth c H locs c0 s0 (vx_MQ below (QXi o D dA [] ad0 σ0 x A0) (XXC o D dA [] ad0 σ0 x A0) args s mc ms A0) (F0 m 25 ls []) := by
  obtain ⟨hx, hb, hml, hown, hts, hr, hlk⟩ := id hC
  intro n
  induction n with
  | zero =>
    intro H locs ls ad c0 s0 mr sr σ v4 v3 v1 v2 hv3 hKA hLX hm hn hR hS hl hf
    rw [fX5_tellKind_L25.eq_1] at hf
    cases hf
  | succ n ih =>
    intro H locs ls ad c0 s0 mr sr σ v4 v3 v1 v2 hv3 hKA hLX hm hn hR hS hl hf
    rw [fX5_tellKind_L25.eq_2] at hf
    refine lv_iload hx hb dX5_tellKind_25 (lv_at hl 0 rfl) ?_
    refine lv_iconst (v := 4) hx hb dX5_tellKind_27 (by decide) ?_
    refine lv_icmp_ge (tgt := 47) hx hb dX5_tellKind_28 (by decide) (fun c18 => ?_) (fun c18 => ?_)
    · have hf := if_of_pos hf c18
      refine lv_aload_n hx hb dX5_tellKind_47 rfl (lv_at hl 1 rfl) ?_
      refine lv_iconst (v := 3) hx hb dX5_tellKind_48 (by decide) ?_
      refine lv_iload_n hx hb dX5_tellKind_49 rfl (lv_at hl 4 rfl) ?_
      refine ww_iast hx hb hK.1 hR hS 0 (f := 11) (j := v3) hv3 rfl rfl (by decide : vin 3 4) dX5_tellKind_50 (fun H locs hR hS => ?_)
      have hR := HC_row11 v3 ((3 : Int32).toNatClampNeg) v2 hR
      have hKA := KA_same (b := pI σ 11 v3 (3 : Int32).toNatClampNeg v2) hKA ⟨rfl, rfl, rfl, rfl, rfl, rfl, rfl⟩
      have hLX := LX_same (b := pI σ 11 v3 (3 : Int32).toNatClampNeg v2) hLX ⟨rfl, rfl, rfl, rfl, rfl, rfl, rfl⟩
      refine lv_aload_n hx hb dX5_tellKind_51 rfl (lv_at hl 2 rfl) ?_
      refine va_get (D := D) (ci := 6) (C := RX5) (T := TX5) (N := 8) hx hb hts iuX5 hown hK.1 (WW_one hR (f := 0) (i := 0) rfl) 0 rfl rfl 2 (by decide) (hts _ q_166) (fun _ h9 => h9) rfl dX5_tellKind_52 ?_
      refine lv_iload_n hx hb dX5_tellKind_55 rfl (lv_at hl 3 rfl) ?_
      obtain ⟨g19, hf⟩ := gd_of hf
      refine va_aldq (C := RX1) hx hb hK.1 (WW_one hR (f := 9) (i := 0) rfl) 0 5 rfl rfl g19 dX5_tellKind_56 ?_
      refine lv_aload_n hx hb dX5_tellKind_57 rfl (lv_at hl 1 rfl) ?_
      refine lv_iload_n hx hb dX5_tellKind_58 rfl (lv_at hl 4 rfl) ?_
      obtain ⟨q20, hcq20, hf⟩ := bd_of hf
      refine kc_i (va_runS (As := [.ref (ad 11 v3), .int v2]) (rest := [.ref (ad 10 v1.toNatClampNeg)]) ⟨hx, hb, hml, hown, hts⟩ (mX5_haircutBy l D dA ad (pI σ 11 v3 (3 : Int32).toNatClampNeg v2) _ v3 v2 q20 hcq20 hv3) (va_cwS 2 hts gX5_66 rfl rfl rfl (by decide +kernel) ⟨Nat.le_of_ble_eq_true rfl, Nat.le_of_ble_eq_true rfl⟩) (preS_of hR hK _) rfl rfl hl.1 rfl (lv_room (Nat.le_of_ble_eq_true rfl)) dX5_tellKind_59 ⟨nle0 hm, nle0 hn⟩) hA hR hS (fun H locs hR hS => ?_)
      refine ww_putN (D := D) (ci := 2) (C := RX1) (T := TX1) (N := 2) (ty := .int) hx hb hts iuX1 tyX1 tyX1_ok nmX1 hown hK.1 hR hS (f := 10) (i := v1.toNatClampNeg) (vin_lt g19) rfl rfl 1 (by decide) (nw_f hK.2 q_158) (fun _ h9 => h9) rfl (by decide +kernel) rfl rfl (Nat.le_of_ble_eq_true rfl) dX5_tellKind_62 (fun H locs hR hS => ?_)
      have hR := HC_Kind_haircut v1.toNatClampNeg q20 hR
      have hKA := KA_same (b := pI (pI σ 11 v3 (3 : Int32).toNatClampNeg v2) 6 v1.toNatClampNeg 0 q20) hKA ⟨rfl, rfl, rfl, rfl, rfl, rfl, rfl⟩
      have hLX := LX_same (b := pI (pI σ 11 v3 (3 : Int32).toNatClampNeg v2) 6 v1.toNatClampNeg 0 q20) hLX ⟨rfl, rfl, rfl, rfl, rfl, rfl, rfl⟩
      refine lv_aload_n hx hb dX5_tellKind_65 rfl (lv_at hl 2 rfl) ?_
      refine va_get (D := D) (ci := 6) (C := RX5) (T := TX5) (N := 8) hx hb hts iuX5 hown hK.1 (WW_one hR (f := 0) (i := 0) rfl) 0 rfl rfl 2 (by decide) (hts _ q_166) (fun _ h9 => h9) rfl dX5_tellKind_66 ?_
      refine lv_iload_n hx hb dX5_tellKind_69 rfl (lv_at hl 3 rfl) ?_
      refine va_aldq (C := RX1) hx hb hK.1 (WW_one hR (f := 9) (i := 0) rfl) 0 5 rfl rfl g19 dX5_tellKind_70 ?_
      refine va_getN (D := D) (ci := 2) (C := RX1) (T := TX1) (N := 2) hx hb hts iuX1 hown hK.1 (WW_one hR (f := 10) (i := v1.toNatClampNeg) (vin_lt g19)) 0 rfl rfl 1 (by decide) (nw_f hK.2 q_158) (fun _ h9 => h9) rfl dX5_tellKind_71 ?_
      cases hf
      exact retx_i hC hKA hLX hR hS (nfin hm) (nfin hn) dX5_tellKind_74
    · have hf := if_of_neg hf c18
      refine lv_aload_n hx hb dX5_tellKind_31 rfl (lv_at hl 1 rfl) ?_
      refine lv_iload hx hb dX5_tellKind_32 (lv_at hl 0 rfl) ?_
      refine lv_iconst (v := 1) hx hb dX5_tellKind_34 (by decide) ?_
      refine lv_isub hx hb dX5_tellKind_35 ?_
      refine lv_aload_n hx hb dX5_tellKind_36 rfl (lv_at hl 1 rfl) ?_
      refine lv_iload hx hb dX5_tellKind_37 (lv_at hl 0 rfl) ?_
      obtain ⟨g21, hf⟩ := gd_of hf
      refine va_iald hx hb hK.1 (WW_one hR (f := 11) (i := v3) hv3) 0 0 rfl rfl g21 dX5_tellKind_39 ?_
      obtain ⟨g22, hf⟩ := gd_of hf
      refine ww_iast hx hb hK.1 hR hS 0 (f := 11) (j := v3) hv3 rfl rfl g22 dX5_tellKind_40 (fun H locs hR hS => ?_)
      have hR := HC_row11 v3 ((v4 - 1).toNatClampNeg) (gI σ 11 v3 v4.toNatClampNeg) hR
      have hKA := KA_same (b := pI σ 11 v3 (v4 - 1).toNatClampNeg (gI σ 11 v3 v4.toNatClampNeg)) hKA ⟨rfl, rfl, rfl, rfl, rfl, rfl, rfl⟩
      have hLX := LX_same (b := pI σ 11 v3 (v4 - 1).toNatClampNeg (gI σ 11 v3 v4.toNatClampNeg)) hLX ⟨rfl, rfl, rfl, rfl, rfl, rfl, rfl⟩
      obtain ⟨x23, hx23⟩ : ∃ y : Int32, y = v4 + 1 := ⟨_, rfl⟩
      have hf := kst_eq hx23 hf
      refine lv_iinc (v := x23) (lv' := [(4, .int x23), (3, .ref (ad 11 v3)), (0, .ref (ad 0 0)), (1, .int v1), (2, .int v2)]) hx hb dX5_tellKind_41 hl (k := 0) rfl (by rw [hx23]; rfl) (by decide) rfl (fun ls hl => ?_)
      refine lv_goto (tgt := 25) hx hb dX5_tellKind_44 (by decide) ?_
      exact ih _ _ _ ad _ _ _ _ (pI σ 11 v3 (v4 - 1).toNatClampNeg (gI σ 11 v3 v4.toNatClampNeg)) x23 v3 v1 v2 hv3 hKA hLX hm hn hR hS (lv_sub hl [0, 1, 2, 3, 4] rfl) hf
def fX5_tellKind (σ : St) (a1 : Int32) (a2 : Int32) : Option ((XO (Int32 × St)) × Nat × Nat) := xb (fX5_demandKind σ a1) (fun q1 => xb (fX5_demandWithin q1 a2 1 9999) (fun q9 => gd (vin a1 2) (fX5_tellKind_L25 1000 q9 1 a1.toNatClampNeg a1 a2)))
set_option maxHeartbeats 4000000 in
set_option maxRecDepth 100000 in
theorem mX5_tellKind (l : Launch) (hst : l.stackTraces = false) (D : va_G) (dA : Nat → ClassId) (ad : Nat → Nat → Nat) (σ : St) (sz x mi : Nat) (a1 : Int32) (a2 : Int32) (o : XO (Int32 × St)) (mc ms : Nat) (hf : fX5_tellKind σ a1 a2 = some (o, mc, ms)) : vx_Met l yX5_tellKind (WSy yX5_tellKind cX5_tellKind 5 (some .int)) ({ frames := 8, cells := mc, slots := ms, locals := 132 } : Room) (va_Pc [.ref (ad 0 0), .int a1, .int a2] (PreA D dA ad σ x mi sz)) (QXi o D dA [] ad σ x (WA ad (cvC σ) sz)) (XXC o D dA [] ad σ x (WA ad (cvC σ) sz)) mc ms (WA ad (cvC σ) sz) := by
  refine metx_of (by decide) (Nat.le_of_ble_eq_true rfl) ?_
  intro p e s m below meth c ls hC hE hB hl
  obtain ⟨rfl, hR, hK, hX, hLX⟩ := hB
  have hA : ∀ q : Nat, s.heap.size ≤ q → WA ad (cvC σ) s.heap.size q := fun q h => Or.inr h
  have hR := WW_fit (B := WA ad (cvC σ) s.heap.size) hR (fun f i h => WA_in h)
  have hS : va_S (WA ad (cvC σ) s.heap.size) s.heap s.heap [] := va_S.rf
  generalize WA ad (cvC σ) s.heap.size = A0 at hA hR hS hX ⊢
  have hC : CTX p s m _ meth c cX5_tellKind 5 RX5 (some .int) := hC
  obtain ⟨hx, hb, hml, hown, hts, hr, hlk⟩ := id hC
  have hl : lv_has ls 5 [(0, .ref (ad 0 0)), (1, .int a1), (2, .int a2)] := hl
  have hKA : KA [] ad ad σ σ := KA_rf _ _ _
  have hm : mc = 0 + mc := (Nat.zero_add mc).symm
  have hn : ms = 0 + ms := (Nat.zero_add ms).symm
  unfold fX5_tellKind at hf
  refine lv_iload_n hx hb dX5_tellKind_0 rfl (lv_at hl 1 rfl) ?_
  rcases xb_of hf with ⟨e2, m3, n4, hcq1, rfl, hem, hen⟩ | ⟨q1, m3, n4, m5, n6, hcq1, hf, hem, hen⟩
  · refine kcx_v (vx_runS (As := [.int a1]) (rest := []) ⟨hx, hb, hml, hown, hts⟩ (mX5_demandKind l hst D dA ad σ _ x mi a1 (.inl e2) m3 n4 hcq1) (va_cwS 1 hts gX5_60 rfl rfl rfl (by decide +kernel) ⟨Nat.le_of_ble_eq_true rfl, Nat.le_of_ble_eq_true rfl⟩) (preSA_of hA hR hS hK hX hLX _) rfl rfl hl.1 rfl (lv_room (Nat.le_of_ble_eq_true rfl)) dX5_tellKind_1 ⟨nleq hm hem, nleq hn hen⟩) hA hR hS (fun k σ' ad' H1 locs1 E ce q9 eo hEk hka hLX hR hS h1 h2 h3 => ?_) (fun _ _ _ _ eo => nomatch eo)
    cases eo
    exact passx hC hE hEk (KA_tr hKA hka (by decide)) hLX hR hS h1 h2 h3 (nleq hm hem) (nleq hn hen)
  refine kcx_vR (q := q1) (vx_runS (As := [.int a1]) (rest := []) ⟨hx, hb, hml, hown, hts⟩ (mX5_demandKind l hst D dA ad σ _ x mi a1 (.inr q1) m3 n4 hcq1) (va_cwS 1 hts gX5_60 rfl rfl rfl (by decide +kernel) ⟨Nat.le_of_ble_eq_true rfl, Nat.le_of_ble_eq_true rfl⟩) (preSA_of hA hR hS hK hX hLX _) rfl rfl hl.1 rfl (lv_room (Nat.le_of_ble_eq_true rfl)) dX5_tellKind_1 ⟨nle hm hem, nle hn hen⟩) hA hR hS (fun ad7 H locs hka hLX hR hS => ?_)
  have e8 := (hka 0 0 rfl (by decide)).1
  have hl : lv_has ls 5 [(0, .ref (ad7 0 0)), (1, .int a1), (2, .int a2)] := by rw [e8]; exact hl
  have hKA := KA_tr hKA hka (by decide)
  have hm := nadd hm hem
  have hn := nadd hn hen
  refine lv_iload_n hx hb dX5_tellKind_4 rfl (lv_at hl 2 rfl) ?_
  refine lv_iconst (v := 1) hx hb dX5_tellKind_5 (by decide) ?_
  refine lv_sipush (v := 9999) hx hb dX5_tellKind_6 (by decide) ?_
  rcases xb_of hf with ⟨e10, m11, n12, hcq9, rfl, hem, hen⟩ | ⟨q9, m11, n12, m13, n14, hcq9, hf, hem, hen⟩
  · refine kcx_v (vx_runS (As := [.int a2, .int 1, .int 9999]) (rest := []) ⟨hx, hb, hml, hown, hts⟩ (mX5_demandWithin l hst D dA ad7 q1 _ x mi a2 1 9999 (.inl e10) m11 n12 hcq9) (va_cwS 3 hts gX5_48 rfl rfl rfl (by decide +kernel) ⟨Nat.le_of_ble_eq_true rfl, Nat.le_of_ble_eq_true rfl⟩) (preSA_of hA hR hS hK hX hLX _) rfl rfl hl.1 rfl (lv_room (Nat.le_of_ble_eq_true rfl)) dX5_tellKind_9 ⟨nleq hm hem, nleq hn hen⟩) hA hR hS (fun k σ' ad' H1 locs1 E ce q9 eo hEk hka hLX hR hS h1 h2 h3 => ?_) (fun _ _ _ _ eo => nomatch eo)
    cases eo
    exact passx hC hE hEk (KA_tr hKA hka (by decide)) hLX hR hS h1 h2 h3 (nleq hm hem) (nleq hn hen)
  refine kcx_vR (q := q9) (vx_runS (As := [.int a2, .int 1, .int 9999]) (rest := []) ⟨hx, hb, hml, hown, hts⟩ (mX5_demandWithin l hst D dA ad7 q1 _ x mi a2 1 9999 (.inr q9) m11 n12 hcq9) (va_cwS 3 hts gX5_48 rfl rfl rfl (by decide +kernel) ⟨Nat.le_of_ble_eq_true rfl, Nat.le_of_ble_eq_true rfl⟩) (preSA_of hA hR hS hK hX hLX _) rfl rfl hl.1 rfl (lv_room (Nat.le_of_ble_eq_true rfl)) dX5_tellKind_9 ⟨nle hm hem, nle hn hen⟩) hA hR hS (fun ad15 H locs hka hLX hR hS => ?_)
  have e16 := (hka 0 0 rfl (by decide)).1
  have hl : lv_has ls 5 [(0, .ref (ad15 0 0)), (1, .int a1), (2, .int a2)] := by rw [e16]; exact hl
  have hKA := KA_tr hKA hka (by decide)
  have hm := nadd hm hem
  have hn := nadd hn hen
  refine lv_aload_n hx hb dX5_tellKind_12 rfl (lv_at hl 0 rfl) ?_
  refine va_get (D := D) (ci := 6) (C := RX5) (T := TX5) (N := 8) hx hb hts iuX5 hown hK.1 (WW_one hR (f := 0) (i := 0) rfl) 0 rfl rfl 2 (by decide) (hts _ q_166) (fun _ h9 => h9) rfl dX5_tellKind_13 ?_
  refine lv_iload_n hx hb dX5_tellKind_16 rfl (lv_at hl 1 rfl) ?_
  obtain ⟨g17, hf⟩ := gd_of hf
  refine va_aldq (C := RX1) hx hb hK.1 (WW_one hR (f := 9) (i := 0) rfl) 0 5 rfl rfl g17 dX5_tellKind_17 ?_
  refine va_getN (D := D) (ci := 2) (C := RX1) (T := TX1) (N := 2) hx hb hts iuX1 hown hK.1 (WW_one hR (f := 10) (i := a1.toNatClampNeg) (vin_lt g17)) 0 rfl rfl 0 (by decide) (nw_f hK.2 q_156) (fun _ h9 => h9) rfl dX5_tellKind_18 ?_
  refine lv_astore_n (lv' := [(3, .ref (ad15 11 a1.toNatClampNeg)), (0, .ref (ad15 0 0)), (1, .int a1), (2, .int a2)]) hx hb dX5_tellKind_21 rfl hl (by decide) rfl (fun ls hl => ?_)
  refine lv_iconst (v := 1) hx hb dX5_tellKind_22 (by decide) ?_
  refine lv_istore (lv' := [(4, .int 1), (3, .ref (ad15 11 a1.toNatClampNeg)), (0, .ref (ad15 0 0)), (1, .int a1), (2, .int a2)]) hx hb dX5_tellKind_23 hl (by decide) rfl (fun ls hl => ?_)
  exact wX5_tellKind_L25 hC hK hA hX hE hst 1000 _ _ _ ad15 _ _ _ _ q9 1 a1.toNatClampNeg a1 a2 (vin_lt g17) hKA hLX hm hn hR hS (lv_sub hl [0, 1, 2, 3, 4] rfl) hf
def fX5_pay (σ : St) (a1 : Int32) (a2 : Int32) : Option ((XO (Int32 × St)) × Nat × Nat) := xb (fX5_demandMember σ a1) (fun q1 => xb (fX5_demandWithin q1 a2 (-100000) 100000) (fun q9 => gd (vin a1 5) (if ¬ (gI q9 0 a1.toNatClampNeg 0) = 0 then xb (fX5_demandState q9 0) (fun q19 => if 0 ≤ a2 then xb (fX5_demandState q19 1) (fun q29 => bd (fX5_receiveFromOutside q29 a1.toNatClampNeg (Int32.toInt64 a2)) (fun q38 => gd (sameN q38 q29) (some (.inr (Int64.toInt32 (gL q38 0 a1.toNatClampNeg 0), q38), 0, 0)))) else bd (fX5_freeOf q19 a1) (fun q40 => gd (sameN q40.2 q19) (if (q40.1 + (Int32.toInt64 a2)) < 0 then xb (fX5_demandState q40.2 0) (fun q43 => bd (fX5_receiveFromOutside q43 a1.toNatClampNeg (Int32.toInt64 a2)) (fun q52 => gd (sameN q52 q43) (some (.inr (Int64.toInt32 (gL q52 0 a1.toNatClampNeg 0), q52), 0, 0)))) else xb (fX5_demandState q40.2 1) (fun q54 => bd (fX5_receiveFromOutside q54 a1.toNatClampNeg (Int32.toInt64 a2)) (fun q63 => gd (sameN q63 q54) (some (.inr (Int64.toInt32 (gL q63 0 a1.toNatClampNeg 0), q63), 0, 0))))))) else xb (fX5_demandState q9 1) (fun q65 => if 0 ≤ a2 then xb (fX5_demandState q65 1) (fun q75 => bd (fX5_receiveFromOutside q75 a1.toNatClampNeg (Int32.toInt64 a2)) (fun q84 => gd (sameN q84 q75) (some (.inr (Int64.toInt32 (gL q84 0 a1.toNatClampNeg 0), q84), 0, 0)))) else bd (fX5_freeOf q65 a1) (fun q86 => gd (sameN q86.2 q65) (if (q86.1 + (Int32.toInt64 a2)) < 0 then xb (fX5_demandState q86.2 0) (fun q89 => bd (fX5_receiveFromOutside q89 a1.toNatClampNeg (Int32.toInt64 a2)) (fun q98 => gd (sameN q98 q89) (some (.inr (Int64.toInt32 (gL q98 0 a1.toNatClampNeg 0), q98), 0, 0)))) else xb (fX5_demandState q86.2 1) (fun q100 => bd (fX5_receiveFromOutside q100 a1.toNatClampNeg (Int32.toInt64 a2)) (fun q109 => gd (sameN q109 q100) (some (.inr (Int64.toInt32 (gL q109 0 a1.toNatClampNeg 0), q109), 0, 0))))))))))
set_option maxHeartbeats 4000000 in
set_option maxRecDepth 100000 in
theorem mX5_pay (l : Launch) (hst : l.stackTraces = false) (D : va_G) (dA : Nat → ClassId) (ad : Nat → Nat → Nat) (σ : St) (sz x mi : Nat) (a1 : Int32) (a2 : Int32) (o : XO (Int32 × St)) (mc ms : Nat) (hf : fX5_pay σ a1 a2 = some (o, mc, ms)) : vx_Met l yX5_pay (WSy yX5_pay cX5_pay 4 (some .int)) ({ frames := 8, cells := mc, slots := ms, locals := 143 } : Room) (va_Pc [.ref (ad 0 0), .int a1, .int a2] (PreA D dA ad σ x mi sz)) (QXi o D dA [] ad σ x (WA ad (cvC σ) sz)) (XXC o D dA [] ad σ x (WA ad (cvC σ) sz)) mc ms (WA ad (cvC σ) sz) := by
  refine metx_of (by decide) (Nat.le_of_ble_eq_true rfl) ?_
  intro p e s m below meth c ls hC hE hB hl
  obtain ⟨rfl, hR, hK, hX, hLX⟩ := hB
  have hA : ∀ q : Nat, s.heap.size ≤ q → WA ad (cvC σ) s.heap.size q := fun q h => Or.inr h
  have hR := WW_fit (B := WA ad (cvC σ) s.heap.size) hR (fun f i h => WA_in h)
  have hS : va_S (WA ad (cvC σ) s.heap.size) s.heap s.heap [] := va_S.rf
  generalize WA ad (cvC σ) s.heap.size = A0 at hA hR hS hX ⊢
  have hC : CTX p s m _ meth c cX5_pay 4 RX5 (some .int) := hC
  obtain ⟨hx, hb, hml, hown, hts, hr, hlk⟩ := id hC
  have hl : lv_has ls 4 [(0, .ref (ad 0 0)), (1, .int a1), (2, .int a2)] := hl
  have hKA : KA [] ad ad σ σ := KA_rf _ _ _
  have hm : mc = 0 + mc := (Nat.zero_add mc).symm
  have hn : ms = 0 + ms := (Nat.zero_add ms).symm
  unfold fX5_pay at hf
  refine lv_iload_n hx hb dX5_pay_0 rfl (lv_at hl 1 rfl) ?_
  rcases xb_of hf with ⟨e2, m3, n4, hcq1, rfl, hem, hen⟩ | ⟨q1, m3, n4, m5, n6, hcq1, hf, hem, hen⟩
  · refine kcx_v (vx_runS (As := [.int a1]) (rest := []) ⟨hx, hb, hml, hown, hts⟩ (mX5_demandMember l hst D dA ad σ _ x mi a1 (.inl e2) m3 n4 hcq1) (va_cwS 1 hts gX5_73 rfl rfl rfl (by decide +kernel) ⟨Nat.le_of_ble_eq_true rfl, Nat.le_of_ble_eq_true rfl⟩) (preSA_of hA hR hS hK hX hLX _) rfl rfl hl.1 rfl (lv_room (Nat.le_of_ble_eq_true rfl)) dX5_pay_1 ⟨nleq hm hem, nleq hn hen⟩) hA hR hS (fun k σ' ad' H1 locs1 E ce q9 eo hEk hka hLX hR hS h1 h2 h3 => ?_) (fun _ _ _ _ eo => nomatch eo)
    cases eo
    exact passx hC hE hEk (KA_tr hKA hka (by decide)) hLX hR hS h1 h2 h3 (nleq hm hem) (nleq hn hen)
  refine kcx_vR (q := q1) (vx_runS (As := [.int a1]) (rest := []) ⟨hx, hb, hml, hown, hts⟩ (mX5_demandMember l hst D dA ad σ _ x mi a1 (.inr q1) m3 n4 hcq1) (va_cwS 1 hts gX5_73 rfl rfl rfl (by decide +kernel) ⟨Nat.le_of_ble_eq_true rfl, Nat.le_of_ble_eq_true rfl⟩) (preSA_of hA hR hS hK hX hLX _) rfl rfl hl.1 rfl (lv_room (Nat.le_of_ble_eq_true rfl)) dX5_pay_1 ⟨nle hm hem, nle hn hen⟩) hA hR hS (fun ad7 H locs hka hLX hR hS => ?_)
  have e8 := (hka 0 0 rfl (by decide)).1
  have hl : lv_has ls 4 [(0, .ref (ad7 0 0)), (1, .int a1), (2, .int a2)] := by rw [e8]; exact hl
  have hKA := KA_tr hKA hka (by decide)
  have hm := nadd hm hem
  have hn := nadd hn hen
  refine lv_iload_n hx hb dX5_pay_4 rfl (lv_at hl 2 rfl) ?_
  refine lv_ldc (v := (-100000)) hx hb hown (hts _ q_353) dX5_pay_5 ?_
  refine lv_ldc (v := 100000) hx hb hown (hts _ q_354) dX5_pay_7 ?_
  rcases xb_of hf with ⟨e10, m11, n12, hcq9, rfl, hem, hen⟩ | ⟨q9, m11, n12, m13, n14, hcq9, hf, hem, hen⟩
  · refine kcx_v (vx_runS (As := [.int a2, .int (-100000), .int 100000]) (rest := []) ⟨hx, hb, hml, hown, hts⟩ (mX5_demandWithin l hst D dA ad7 q1 _ x mi a2 (-100000) 100000 (.inl e10) m11 n12 hcq9) (va_cwS 3 hts gX5_48 rfl rfl rfl (by decide +kernel) ⟨Nat.le_of_ble_eq_true rfl, Nat.le_of_ble_eq_true rfl⟩) (preSA_of hA hR hS hK hX hLX _) rfl rfl hl.1 rfl (lv_room (Nat.le_of_ble_eq_true rfl)) dX5_pay_9 ⟨nleq hm hem, nleq hn hen⟩) hA hR hS (fun k σ' ad' H1 locs1 E ce q9 eo hEk hka hLX hR hS h1 h2 h3 => ?_) (fun _ _ _ _ eo => nomatch eo)
    cases eo
    exact passx hC hE hEk (KA_tr hKA hka (by decide)) hLX hR hS h1 h2 h3 (nleq hm hem) (nleq hn hen)
  refine kcx_vR (q := q9) (vx_runS (As := [.int a2, .int (-100000), .int 100000]) (rest := []) ⟨hx, hb, hml, hown, hts⟩ (mX5_demandWithin l hst D dA ad7 q1 _ x mi a2 (-100000) 100000 (.inr q9) m11 n12 hcq9) (va_cwS 3 hts gX5_48 rfl rfl rfl (by decide +kernel) ⟨Nat.le_of_ble_eq_true rfl, Nat.le_of_ble_eq_true rfl⟩) (preSA_of hA hR hS hK hX hLX _) rfl rfl hl.1 rfl (lv_room (Nat.le_of_ble_eq_true rfl)) dX5_pay_9 ⟨nle hm hem, nle hn hen⟩) hA hR hS (fun ad15 H locs hka hLX hR hS => ?_)
  have e16 := (hka 0 0 rfl (by decide)).1
  have hl : lv_has ls 4 [(0, .ref (ad15 0 0)), (1, .int a1), (2, .int a2)] := by rw [e16]; exact hl
  have hKA := KA_tr hKA hka (by decide)
  have hm := nadd hm hem
  have hn := nadd hn hen
  refine lv_aload_n hx hb dX5_pay_12 rfl (lv_at hl 0 rfl) ?_
  refine va_get (D := D) (ci := 6) (C := RX5) (T := TX5) (N := 8) hx hb hts iuX5 hown hK.1 (WW_one hR (f := 0) (i := 0) rfl) 0 rfl rfl 0 (by decide) (hts _ q_164) (fun _ h9 => h9) rfl dX5_pay_13 ?_
  refine lv_iload_n hx hb dX5_pay_16 rfl (lv_at hl 1 rfl) ?_
  obtain ⟨g17, hf⟩ := gd_of hf
  refine va_aldq (C := RX0) hx hb hK.1 (WW_one hR (f := 1) (i := 0) rfl) 0 3 rfl rfl g17 dX5_pay_17 ?_
  refine lv_astore_n (lv' := [(3, .ref (ad15 2 a1.toNatClampNeg)), (0, .ref (ad15 0 0)), (1, .int a1), (2, .int a2)]) hx hb dX5_pay_18 rfl hl (by decide) rfl (fun ls hl => ?_)
  refine lv_aload_n hx hb dX5_pay_19 rfl (lv_at hl 0 rfl) ?_
  refine va_getN (D := D) (ci := 1) (C := RX0) (T := TX0) (N := 8) hx hb hts iuX0 hown hK.1 (WW_one hR (f := 2) (i := a1.toNatClampNeg) (vin_lt g17)) 0 rfl rfl 3 (by decide) (nw_f hK.2 q_105) (fun _ h9 => h9) rfl dX5_pay_20 ?_
  refine lv_if_ne (tgt := 30) hx hb dX5_pay_23 (by decide) (fun c18 => ?_) (fun c18 => ?_)
  · have hf := if_of_pos hf c18
    refine lv_iconst (v := 0) hx hb dX5_pay_30 (by decide) ?_
    rcases xb_of hf with ⟨e20, m21, n22, hcq19, rfl, hem, hen⟩ | ⟨q19, m21, n22, m23, n24, hcq19, hf, hem, hen⟩
    · refine kcx_v (vx_runS (As := [.int 0]) (rest := []) ⟨hx, hb, hml, hown, hts⟩ (mX5_demandState l hst D dA ad15 q9 _ x mi 0 (.inl e20) m21 n22 hcq19) (va_cwS 1 hts gX5_82 rfl rfl rfl (by decide +kernel) ⟨Nat.le_of_ble_eq_true rfl, Nat.le_of_ble_eq_true rfl⟩) (preSA_of hA hR hS hK hX hLX _) rfl rfl hl.1 rfl (lv_room (Nat.le_of_ble_eq_true rfl)) dX5_pay_31 ⟨nleq hm hem, nleq hn hen⟩) hA hR hS (fun k σ' ad' H1 locs1 E ce q9 eo hEk hka hLX hR hS h1 h2 h3 => ?_) (fun _ _ _ _ eo => nomatch eo)
      cases eo
      exact passx hC hE hEk (KA_tr hKA hka (by decide)) hLX hR hS h1 h2 h3 (nleq hm hem) (nleq hn hen)
    refine kcx_vR (q := q19) (vx_runS (As := [.int 0]) (rest := []) ⟨hx, hb, hml, hown, hts⟩ (mX5_demandState l hst D dA ad15 q9 _ x mi 0 (.inr q19) m21 n22 hcq19) (va_cwS 1 hts gX5_82 rfl rfl rfl (by decide +kernel) ⟨Nat.le_of_ble_eq_true rfl, Nat.le_of_ble_eq_true rfl⟩) (preSA_of hA hR hS hK hX hLX _) rfl rfl hl.1 rfl (lv_room (Nat.le_of_ble_eq_true rfl)) dX5_pay_31 ⟨nle hm hem, nle hn hen⟩) hA hR hS (fun ad25 H locs hka hLX hR hS => ?_)
    have e26 := (hka 2 a1.toNatClampNeg (vin_lt g17) (by decide)).1
    have e27 := (hka 0 0 rfl (by decide)).1
    have hl : lv_has ls 4 [(3, .ref (ad25 2 a1.toNatClampNeg)), (0, .ref (ad25 0 0)), (1, .int a1), (2, .int a2)] := by rw [e26, e27]; exact hl
    have hKA := KA_tr hKA hka (by decide)
    have hm := nadd hm hem
    have hn := nadd hn hen
    refine lv_iload_n hx hb dX5_pay_34 rfl (lv_at hl 3 rfl) ?_
    refine lv_if_ge (tgt := 51) hx hb dX5_pay_35 (by decide) (fun c28 => ?_) (fun c28 => ?_)
    · have hf := if_of_pos hf c28
      refine lv_iconst (v := 1) hx hb dX5_pay_51 (by decide) ?_
      refine lv_goto (tgt := 56) hx hb dX5_pay_52 (by decide) ?_
      rcases xb_of hf with ⟨e30, m31, n32, hcq29, rfl, hem, hen⟩ | ⟨q29, m31, n32, m33, n34, hcq29, hf, hem, hen⟩
      · refine kcx_v (vx_runS (As := [.int 1]) (rest := []) ⟨hx, hb, hml, hown, hts⟩ (mX5_demandState l hst D dA ad25 q19 _ x mi 1 (.inl e30) m31 n32 hcq29) (va_cwS 1 hts gX5_82 rfl rfl rfl (by decide +kernel) ⟨Nat.le_of_ble_eq_true rfl, Nat.le_of_ble_eq_true rfl⟩) (preSA_of hA hR hS hK hX hLX _) rfl rfl hl.1 rfl (lv_room (Nat.le_of_ble_eq_true rfl)) dX5_pay_56 ⟨nleq hm hem, nleq hn hen⟩) hA hR hS (fun k σ' ad' H1 locs1 E ce q9 eo hEk hka hLX hR hS h1 h2 h3 => ?_) (fun _ _ _ _ eo => nomatch eo)
        cases eo
        exact passx hC hE hEk (KA_tr hKA hka (by decide)) hLX hR hS h1 h2 h3 (nleq hm hem) (nleq hn hen)
      refine kcx_vR (q := q29) (vx_runS (As := [.int 1]) (rest := []) ⟨hx, hb, hml, hown, hts⟩ (mX5_demandState l hst D dA ad25 q19 _ x mi 1 (.inr q29) m31 n32 hcq29) (va_cwS 1 hts gX5_82 rfl rfl rfl (by decide +kernel) ⟨Nat.le_of_ble_eq_true rfl, Nat.le_of_ble_eq_true rfl⟩) (preSA_of hA hR hS hK hX hLX _) rfl rfl hl.1 rfl (lv_room (Nat.le_of_ble_eq_true rfl)) dX5_pay_56 ⟨nle hm hem, nle hn hen⟩) hA hR hS (fun ad35 H locs hka hLX hR hS => ?_)
      have e36 := (hka 2 a1.toNatClampNeg (vin_lt g17) (by decide)).1
      have e37 := (hka 0 0 rfl (by decide)).1
      have hl : lv_has ls 4 [(3, .ref (ad35 2 a1.toNatClampNeg)), (0, .ref (ad35 0 0)), (1, .int a1), (2, .int a2)] := by rw [e36, e37]; exact hl
      have hKA := KA_tr hKA hka (by decide)
      have hm := nadd hm hem
      have hn := nadd hn hen
      refine lv_aload_n hx hb dX5_pay_59 rfl (lv_at hl 0 rfl) ?_
      refine lv_iload_n hx hb dX5_pay_60 rfl (lv_at hl 3 rfl) ?_
      refine lv_i2l hx hb dX5_pay_61 rfl ?_
      obtain ⟨q38, hcq38, hf⟩ := bd_of hf
      obtain ⟨g39, hf⟩ := gd_of hf
      refine kc_v (va_runS (As := [.ref (ad35 2 a1.toNatClampNeg), .long (Int32.toInt64 a2)]) (rest := []) ⟨hx, hb, hml, hown, hts⟩ (mX5_receiveFromOutside l D dA ad35 q29 _ a1.toNatClampNeg (Int32.toInt64 a2) q38 hcq38 (vin_lt g17)) (va_cwS 2 hts gX5_90 rfl rfl rfl (by decide +kernel) ⟨Nat.le_of_ble_eq_true rfl, Nat.le_of_ble_eq_true rfl⟩) (preS_of hR hK _) rfl rfl hl.1 rfl (lv_room (Nat.le_of_ble_eq_true rfl)) dX5_pay_62 ⟨nle0 hm, nle0 hn⟩) hA hR hS (fun H locs hR hS => ?_)
      have hKA := KA_same hKA g39
      have hLX := LX_same hLX g39
      refine lv_aload_n hx hb dX5_pay_65 rfl (lv_at hl 0 rfl) ?_
      refine va_getN (D := D) (ci := 1) (C := RX0) (T := TX0) (N := 8) hx hb hts iuX0 hown hK.1 (WW_one hR (f := 2) (i := a1.toNatClampNeg) (vin_lt g17)) 0 rfl rfl 0 (by decide) (nw_f hK.2 q_102) (fun _ h9 => h9) rfl dX5_pay_66 ?_
      refine lv_l2i hx hb dX5_pay_69 rfl ?_
      cases hf
      exact retx_i hC hKA hLX hR hS (nfin hm) (nfin hn) dX5_pay_70
    · have hf := if_of_neg hf c28
      refine lv_aload_n hx hb dX5_pay_38 rfl (lv_at hl 1 rfl) ?_
      refine lv_iload_n hx hb dX5_pay_39 rfl (lv_at hl 2 rfl) ?_
      obtain ⟨q40, hcq40, hf⟩ := bd_of hf
      obtain ⟨g41, hf⟩ := gd_of hf
      refine kc_l (va_runV (As := [.int a1]) (rest := []) ⟨hx, hb, hml, hown, hts⟩ (mX5_freeOf l D dA ad25 q19 _ a1 q40.1 q40.2 hcq40) (cwV 1 hts gX5_86 rfl rfl rfl (by decide +kernel) ⟨Nat.le_of_ble_eq_true rfl, Nat.le_of_ble_eq_true rfl⟩) (preV_of hR hK (f := 0) (i := 0) rfl rfl rfl _) rfl rfl hl.1 rfl (lv_room (Nat.le_of_ble_eq_true rfl)) dX5_pay_40 ⟨nle0 hm, nle0 hn⟩) hA hR hS (fun H locs hR hS => ?_)
      have hKA := KA_same hKA g41
      have hLX := LX_same hLX g41
      refine lv_iload_n hx hb dX5_pay_43 rfl (lv_at hl 3 rfl) ?_
      refine lv_i2l hx hb dX5_pay_44 rfl ?_
      refine lv_ladd hx hb dX5_pay_45 ?_
      refine lv_lconst (v := 0) hx hb dX5_pay_46 (by decide) ?_
      refine W.lcmp hx hb dX5_pay_47 ?_
      refine lv_if_lt (tgt := 55) hx hb dX5_pay_48 (by decide) (fun c420 => ?_) (fun c420 => ?_)
      · have c42 : (q40.1 + (Int32.toInt64 a2)) < 0 := (lg_cmp_lt _ _).mp c420
        have hf := if_of_pos hf c42
        refine lv_iconst (v := 0) hx hb dX5_pay_55 (by decide) ?_
        rcases xb_of hf with ⟨e44, m45, n46, hcq43, rfl, hem, hen⟩ | ⟨q43, m45, n46, m47, n48, hcq43, hf, hem, hen⟩
        · refine kcx_v (vx_runS (As := [.int 0]) (rest := []) ⟨hx, hb, hml, hown, hts⟩ (mX5_demandState l hst D dA ad25 q40.2 _ x mi 0 (.inl e44) m45 n46 hcq43) (va_cwS 1 hts gX5_82 rfl rfl rfl (by decide +kernel) ⟨Nat.le_of_ble_eq_true rfl, Nat.le_of_ble_eq_true rfl⟩) (preSA_of hA hR hS hK hX hLX _) rfl rfl hl.1 rfl (lv_room (Nat.le_of_ble_eq_true rfl)) dX5_pay_56 ⟨nleq hm hem, nleq hn hen⟩) hA hR hS (fun k σ' ad' H1 locs1 E ce q9 eo hEk hka hLX hR hS h1 h2 h3 => ?_) (fun _ _ _ _ eo => nomatch eo)
          cases eo
          exact passx hC hE hEk (KA_tr hKA hka (by decide)) hLX hR hS h1 h2 h3 (nleq hm hem) (nleq hn hen)
        refine kcx_vR (q := q43) (vx_runS (As := [.int 0]) (rest := []) ⟨hx, hb, hml, hown, hts⟩ (mX5_demandState l hst D dA ad25 q40.2 _ x mi 0 (.inr q43) m45 n46 hcq43) (va_cwS 1 hts gX5_82 rfl rfl rfl (by decide +kernel) ⟨Nat.le_of_ble_eq_true rfl, Nat.le_of_ble_eq_true rfl⟩) (preSA_of hA hR hS hK hX hLX _) rfl rfl hl.1 rfl (lv_room (Nat.le_of_ble_eq_true rfl)) dX5_pay_56 ⟨nle hm hem, nle hn hen⟩) hA hR hS (fun ad49 H locs hka hLX hR hS => ?_)
        have e50 := (hka 2 a1.toNatClampNeg (vin_lt g17) (by decide)).1
        have e51 := (hka 0 0 rfl (by decide)).1
        have hl : lv_has ls 4 [(3, .ref (ad49 2 a1.toNatClampNeg)), (0, .ref (ad49 0 0)), (1, .int a1), (2, .int a2)] := by rw [e50, e51]; exact hl
        have hKA := KA_tr hKA hka (by decide)
        have hm := nadd hm hem
        have hn := nadd hn hen
        refine lv_aload_n hx hb dX5_pay_59 rfl (lv_at hl 0 rfl) ?_
        refine lv_iload_n hx hb dX5_pay_60 rfl (lv_at hl 3 rfl) ?_
        refine lv_i2l hx hb dX5_pay_61 rfl ?_
        obtain ⟨q52, hcq52, hf⟩ := bd_of hf
        obtain ⟨g53, hf⟩ := gd_of hf
        refine kc_v (va_runS (As := [.ref (ad49 2 a1.toNatClampNeg), .long (Int32.toInt64 a2)]) (rest := []) ⟨hx, hb, hml, hown, hts⟩ (mX5_receiveFromOutside l D dA ad49 q43 _ a1.toNatClampNeg (Int32.toInt64 a2) q52 hcq52 (vin_lt g17)) (va_cwS 2 hts gX5_90 rfl rfl rfl (by decide +kernel) ⟨Nat.le_of_ble_eq_true rfl, Nat.le_of_ble_eq_true rfl⟩) (preS_of hR hK _) rfl rfl hl.1 rfl (lv_room (Nat.le_of_ble_eq_true rfl)) dX5_pay_62 ⟨nle0 hm, nle0 hn⟩) hA hR hS (fun H locs hR hS => ?_)
        have hKA := KA_same hKA g53
        have hLX := LX_same hLX g53
        refine lv_aload_n hx hb dX5_pay_65 rfl (lv_at hl 0 rfl) ?_
        refine va_getN (D := D) (ci := 1) (C := RX0) (T := TX0) (N := 8) hx hb hts iuX0 hown hK.1 (WW_one hR (f := 2) (i := a1.toNatClampNeg) (vin_lt g17)) 0 rfl rfl 0 (by decide) (nw_f hK.2 q_102) (fun _ h9 => h9) rfl dX5_pay_66 ?_
        refine lv_l2i hx hb dX5_pay_69 rfl ?_
        cases hf
        exact retx_i hC hKA hLX hR hS (nfin hm) (nfin hn) dX5_pay_70
      · have c42 : ¬ ((q40.1 + (Int32.toInt64 a2)) < 0) := fun q => c420 ((lg_cmp_lt _ _).mpr q)
        have hf := if_of_neg hf c42
        refine lv_iconst (v := 1) hx hb dX5_pay_51 (by decide) ?_
        refine lv_goto (tgt := 56) hx hb dX5_pay_52 (by decide) ?_
        rcases xb_of hf with ⟨e55, m56, n57, hcq54, rfl, hem, hen⟩ | ⟨q54, m56, n57, m58, n59, hcq54, hf, hem, hen⟩
        · refine kcx_v (vx_runS (As := [.int 1]) (rest := []) ⟨hx, hb, hml, hown, hts⟩ (mX5_demandState l hst D dA ad25 q40.2 _ x mi 1 (.inl e55) m56 n57 hcq54) (va_cwS 1 hts gX5_82 rfl rfl rfl (by decide +kernel) ⟨Nat.le_of_ble_eq_true rfl, Nat.le_of_ble_eq_true rfl⟩) (preSA_of hA hR hS hK hX hLX _) rfl rfl hl.1 rfl (lv_room (Nat.le_of_ble_eq_true rfl)) dX5_pay_56 ⟨nleq hm hem, nleq hn hen⟩) hA hR hS (fun k σ' ad' H1 locs1 E ce q9 eo hEk hka hLX hR hS h1 h2 h3 => ?_) (fun _ _ _ _ eo => nomatch eo)
          cases eo
          exact passx hC hE hEk (KA_tr hKA hka (by decide)) hLX hR hS h1 h2 h3 (nleq hm hem) (nleq hn hen)
        refine kcx_vR (q := q54) (vx_runS (As := [.int 1]) (rest := []) ⟨hx, hb, hml, hown, hts⟩ (mX5_demandState l hst D dA ad25 q40.2 _ x mi 1 (.inr q54) m56 n57 hcq54) (va_cwS 1 hts gX5_82 rfl rfl rfl (by decide +kernel) ⟨Nat.le_of_ble_eq_true rfl, Nat.le_of_ble_eq_true rfl⟩) (preSA_of hA hR hS hK hX hLX _) rfl rfl hl.1 rfl (lv_room (Nat.le_of_ble_eq_true rfl)) dX5_pay_56 ⟨nle hm hem, nle hn hen⟩) hA hR hS (fun ad60 H locs hka hLX hR hS => ?_)
        have e61 := (hka 2 a1.toNatClampNeg (vin_lt g17) (by decide)).1
        have e62 := (hka 0 0 rfl (by decide)).1
        have hl : lv_has ls 4 [(3, .ref (ad60 2 a1.toNatClampNeg)), (0, .ref (ad60 0 0)), (1, .int a1), (2, .int a2)] := by rw [e61, e62]; exact hl
        have hKA := KA_tr hKA hka (by decide)
        have hm := nadd hm hem
        have hn := nadd hn hen
        refine lv_aload_n hx hb dX5_pay_59 rfl (lv_at hl 0 rfl) ?_
        refine lv_iload_n hx hb dX5_pay_60 rfl (lv_at hl 3 rfl) ?_
        refine lv_i2l hx hb dX5_pay_61 rfl ?_
        obtain ⟨q63, hcq63, hf⟩ := bd_of hf
        obtain ⟨g64, hf⟩ := gd_of hf
        refine kc_v (va_runS (As := [.ref (ad60 2 a1.toNatClampNeg), .long (Int32.toInt64 a2)]) (rest := []) ⟨hx, hb, hml, hown, hts⟩ (mX5_receiveFromOutside l D dA ad60 q54 _ a1.toNatClampNeg (Int32.toInt64 a2) q63 hcq63 (vin_lt g17)) (va_cwS 2 hts gX5_90 rfl rfl rfl (by decide +kernel) ⟨Nat.le_of_ble_eq_true rfl, Nat.le_of_ble_eq_true rfl⟩) (preS_of hR hK _) rfl rfl hl.1 rfl (lv_room (Nat.le_of_ble_eq_true rfl)) dX5_pay_62 ⟨nle0 hm, nle0 hn⟩) hA hR hS (fun H locs hR hS => ?_)
        have hKA := KA_same hKA g64
        have hLX := LX_same hLX g64
        refine lv_aload_n hx hb dX5_pay_65 rfl (lv_at hl 0 rfl) ?_
        refine va_getN (D := D) (ci := 1) (C := RX0) (T := TX0) (N := 8) hx hb hts iuX0 hown hK.1 (WW_one hR (f := 2) (i := a1.toNatClampNeg) (vin_lt g17)) 0 rfl rfl 0 (by decide) (nw_f hK.2 q_102) (fun _ h9 => h9) rfl dX5_pay_66 ?_
        refine lv_l2i hx hb dX5_pay_69 rfl ?_
        cases hf
        exact retx_i hC hKA hLX hR hS (nfin hm) (nfin hn) dX5_pay_70
  · have hf := if_of_neg hf (fun q => q c18)
    refine lv_iconst (v := 1) hx hb dX5_pay_26 (by decide) ?_
    refine lv_goto (tgt := 31) hx hb dX5_pay_27 (by decide) ?_
    rcases xb_of hf with ⟨e66, m67, n68, hcq65, rfl, hem, hen⟩ | ⟨q65, m67, n68, m69, n70, hcq65, hf, hem, hen⟩
    · refine kcx_v (vx_runS (As := [.int 1]) (rest := []) ⟨hx, hb, hml, hown, hts⟩ (mX5_demandState l hst D dA ad15 q9 _ x mi 1 (.inl e66) m67 n68 hcq65) (va_cwS 1 hts gX5_82 rfl rfl rfl (by decide +kernel) ⟨Nat.le_of_ble_eq_true rfl, Nat.le_of_ble_eq_true rfl⟩) (preSA_of hA hR hS hK hX hLX _) rfl rfl hl.1 rfl (lv_room (Nat.le_of_ble_eq_true rfl)) dX5_pay_31 ⟨nleq hm hem, nleq hn hen⟩) hA hR hS (fun k σ' ad' H1 locs1 E ce q9 eo hEk hka hLX hR hS h1 h2 h3 => ?_) (fun _ _ _ _ eo => nomatch eo)
      cases eo
      exact passx hC hE hEk (KA_tr hKA hka (by decide)) hLX hR hS h1 h2 h3 (nleq hm hem) (nleq hn hen)
    refine kcx_vR (q := q65) (vx_runS (As := [.int 1]) (rest := []) ⟨hx, hb, hml, hown, hts⟩ (mX5_demandState l hst D dA ad15 q9 _ x mi 1 (.inr q65) m67 n68 hcq65) (va_cwS 1 hts gX5_82 rfl rfl rfl (by decide +kernel) ⟨Nat.le_of_ble_eq_true rfl, Nat.le_of_ble_eq_true rfl⟩) (preSA_of hA hR hS hK hX hLX _) rfl rfl hl.1 rfl (lv_room (Nat.le_of_ble_eq_true rfl)) dX5_pay_31 ⟨nle hm hem, nle hn hen⟩) hA hR hS (fun ad71 H locs hka hLX hR hS => ?_)
    have e72 := (hka 2 a1.toNatClampNeg (vin_lt g17) (by decide)).1
    have e73 := (hka 0 0 rfl (by decide)).1
    have hl : lv_has ls 4 [(3, .ref (ad71 2 a1.toNatClampNeg)), (0, .ref (ad71 0 0)), (1, .int a1), (2, .int a2)] := by rw [e72, e73]; exact hl
    have hKA := KA_tr hKA hka (by decide)
    have hm := nadd hm hem
    have hn := nadd hn hen
    refine lv_iload_n hx hb dX5_pay_34 rfl (lv_at hl 3 rfl) ?_
    refine lv_if_ge (tgt := 51) hx hb dX5_pay_35 (by decide) (fun c74 => ?_) (fun c74 => ?_)
    · have hf := if_of_pos hf c74
      refine lv_iconst (v := 1) hx hb dX5_pay_51 (by decide) ?_
      refine lv_goto (tgt := 56) hx hb dX5_pay_52 (by decide) ?_
      rcases xb_of hf with ⟨e76, m77, n78, hcq75, rfl, hem, hen⟩ | ⟨q75, m77, n78, m79, n80, hcq75, hf, hem, hen⟩
      · refine kcx_v (vx_runS (As := [.int 1]) (rest := []) ⟨hx, hb, hml, hown, hts⟩ (mX5_demandState l hst D dA ad71 q65 _ x mi 1 (.inl e76) m77 n78 hcq75) (va_cwS 1 hts gX5_82 rfl rfl rfl (by decide +kernel) ⟨Nat.le_of_ble_eq_true rfl, Nat.le_of_ble_eq_true rfl⟩) (preSA_of hA hR hS hK hX hLX _) rfl rfl hl.1 rfl (lv_room (Nat.le_of_ble_eq_true rfl)) dX5_pay_56 ⟨nleq hm hem, nleq hn hen⟩) hA hR hS (fun k σ' ad' H1 locs1 E ce q9 eo hEk hka hLX hR hS h1 h2 h3 => ?_) (fun _ _ _ _ eo => nomatch eo)
        cases eo
        exact passx hC hE hEk (KA_tr hKA hka (by decide)) hLX hR hS h1 h2 h3 (nleq hm hem) (nleq hn hen)
      refine kcx_vR (q := q75) (vx_runS (As := [.int 1]) (rest := []) ⟨hx, hb, hml, hown, hts⟩ (mX5_demandState l hst D dA ad71 q65 _ x mi 1 (.inr q75) m77 n78 hcq75) (va_cwS 1 hts gX5_82 rfl rfl rfl (by decide +kernel) ⟨Nat.le_of_ble_eq_true rfl, Nat.le_of_ble_eq_true rfl⟩) (preSA_of hA hR hS hK hX hLX _) rfl rfl hl.1 rfl (lv_room (Nat.le_of_ble_eq_true rfl)) dX5_pay_56 ⟨nle hm hem, nle hn hen⟩) hA hR hS (fun ad81 H locs hka hLX hR hS => ?_)
      have e82 := (hka 2 a1.toNatClampNeg (vin_lt g17) (by decide)).1
      have e83 := (hka 0 0 rfl (by decide)).1
      have hl : lv_has ls 4 [(3, .ref (ad81 2 a1.toNatClampNeg)), (0, .ref (ad81 0 0)), (1, .int a1), (2, .int a2)] := by rw [e82, e83]; exact hl
      have hKA := KA_tr hKA hka (by decide)
      have hm := nadd hm hem
      have hn := nadd hn hen
      refine lv_aload_n hx hb dX5_pay_59 rfl (lv_at hl 0 rfl) ?_
      refine lv_iload_n hx hb dX5_pay_60 rfl (lv_at hl 3 rfl) ?_
      refine lv_i2l hx hb dX5_pay_61 rfl ?_
      obtain ⟨q84, hcq84, hf⟩ := bd_of hf
      obtain ⟨g85, hf⟩ := gd_of hf
      refine kc_v (va_runS (As := [.ref (ad81 2 a1.toNatClampNeg), .long (Int32.toInt64 a2)]) (rest := []) ⟨hx, hb, hml, hown, hts⟩ (mX5_receiveFromOutside l D dA ad81 q75 _ a1.toNatClampNeg (Int32.toInt64 a2) q84 hcq84 (vin_lt g17)) (va_cwS 2 hts gX5_90 rfl rfl rfl (by decide +kernel) ⟨Nat.le_of_ble_eq_true rfl, Nat.le_of_ble_eq_true rfl⟩) (preS_of hR hK _) rfl rfl hl.1 rfl (lv_room (Nat.le_of_ble_eq_true rfl)) dX5_pay_62 ⟨nle0 hm, nle0 hn⟩) hA hR hS (fun H locs hR hS => ?_)
      have hKA := KA_same hKA g85
      have hLX := LX_same hLX g85
      refine lv_aload_n hx hb dX5_pay_65 rfl (lv_at hl 0 rfl) ?_
      refine va_getN (D := D) (ci := 1) (C := RX0) (T := TX0) (N := 8) hx hb hts iuX0 hown hK.1 (WW_one hR (f := 2) (i := a1.toNatClampNeg) (vin_lt g17)) 0 rfl rfl 0 (by decide) (nw_f hK.2 q_102) (fun _ h9 => h9) rfl dX5_pay_66 ?_
      refine lv_l2i hx hb dX5_pay_69 rfl ?_
      cases hf
      exact retx_i hC hKA hLX hR hS (nfin hm) (nfin hn) dX5_pay_70
    · have hf := if_of_neg hf c74
      refine lv_aload_n hx hb dX5_pay_38 rfl (lv_at hl 1 rfl) ?_
      refine lv_iload_n hx hb dX5_pay_39 rfl (lv_at hl 2 rfl) ?_
      obtain ⟨q86, hcq86, hf⟩ := bd_of hf
      obtain ⟨g87, hf⟩ := gd_of hf
      refine kc_l (va_runV (As := [.int a1]) (rest := []) ⟨hx, hb, hml, hown, hts⟩ (mX5_freeOf l D dA ad71 q65 _ a1 q86.1 q86.2 hcq86) (cwV 1 hts gX5_86 rfl rfl rfl (by decide +kernel) ⟨Nat.le_of_ble_eq_true rfl, Nat.le_of_ble_eq_true rfl⟩) (preV_of hR hK (f := 0) (i := 0) rfl rfl rfl _) rfl rfl hl.1 rfl (lv_room (Nat.le_of_ble_eq_true rfl)) dX5_pay_40 ⟨nle0 hm, nle0 hn⟩) hA hR hS (fun H locs hR hS => ?_)
      have hKA := KA_same hKA g87
      have hLX := LX_same hLX g87
      refine lv_iload_n hx hb dX5_pay_43 rfl (lv_at hl 3 rfl) ?_
      refine lv_i2l hx hb dX5_pay_44 rfl ?_
      refine lv_ladd hx hb dX5_pay_45 ?_
      refine lv_lconst (v := 0) hx hb dX5_pay_46 (by decide) ?_
      refine W.lcmp hx hb dX5_pay_47 ?_
      refine lv_if_lt (tgt := 55) hx hb dX5_pay_48 (by decide) (fun c880 => ?_) (fun c880 => ?_)
      · have c88 : (q86.1 + (Int32.toInt64 a2)) < 0 := (lg_cmp_lt _ _).mp c880
        have hf := if_of_pos hf c88
        refine lv_iconst (v := 0) hx hb dX5_pay_55 (by decide) ?_
        rcases xb_of hf with ⟨e90, m91, n92, hcq89, rfl, hem, hen⟩ | ⟨q89, m91, n92, m93, n94, hcq89, hf, hem, hen⟩
        · refine kcx_v (vx_runS (As := [.int 0]) (rest := []) ⟨hx, hb, hml, hown, hts⟩ (mX5_demandState l hst D dA ad71 q86.2 _ x mi 0 (.inl e90) m91 n92 hcq89) (va_cwS 1 hts gX5_82 rfl rfl rfl (by decide +kernel) ⟨Nat.le_of_ble_eq_true rfl, Nat.le_of_ble_eq_true rfl⟩) (preSA_of hA hR hS hK hX hLX _) rfl rfl hl.1 rfl (lv_room (Nat.le_of_ble_eq_true rfl)) dX5_pay_56 ⟨nleq hm hem, nleq hn hen⟩) hA hR hS (fun k σ' ad' H1 locs1 E ce q9 eo hEk hka hLX hR hS h1 h2 h3 => ?_) (fun _ _ _ _ eo => nomatch eo)
          cases eo
          exact passx hC hE hEk (KA_tr hKA hka (by decide)) hLX hR hS h1 h2 h3 (nleq hm hem) (nleq hn hen)
        refine kcx_vR (q := q89) (vx_runS (As := [.int 0]) (rest := []) ⟨hx, hb, hml, hown, hts⟩ (mX5_demandState l hst D dA ad71 q86.2 _ x mi 0 (.inr q89) m91 n92 hcq89) (va_cwS 1 hts gX5_82 rfl rfl rfl (by decide +kernel) ⟨Nat.le_of_ble_eq_true rfl, Nat.le_of_ble_eq_true rfl⟩) (preSA_of hA hR hS hK hX hLX _) rfl rfl hl.1 rfl (lv_room (Nat.le_of_ble_eq_true rfl)) dX5_pay_56 ⟨nle hm hem, nle hn hen⟩) hA hR hS (fun ad95 H locs hka hLX hR hS => ?_)
        have e96 := (hka 2 a1.toNatClampNeg (vin_lt g17) (by decide)).1
        have e97 := (hka 0 0 rfl (by decide)).1
        have hl : lv_has ls 4 [(3, .ref (ad95 2 a1.toNatClampNeg)), (0, .ref (ad95 0 0)), (1, .int a1), (2, .int a2)] := by rw [e96, e97]; exact hl
        have hKA := KA_tr hKA hka (by decide)
        have hm := nadd hm hem
        have hn := nadd hn hen
        refine lv_aload_n hx hb dX5_pay_59 rfl (lv_at hl 0 rfl) ?_
        refine lv_iload_n hx hb dX5_pay_60 rfl (lv_at hl 3 rfl) ?_
        refine lv_i2l hx hb dX5_pay_61 rfl ?_
        obtain ⟨q98, hcq98, hf⟩ := bd_of hf
        obtain ⟨g99, hf⟩ := gd_of hf
        refine kc_v (va_runS (As := [.ref (ad95 2 a1.toNatClampNeg), .long (Int32.toInt64 a2)]) (rest := []) ⟨hx, hb, hml, hown, hts⟩ (mX5_receiveFromOutside l D dA ad95 q89 _ a1.toNatClampNeg (Int32.toInt64 a2) q98 hcq98 (vin_lt g17)) (va_cwS 2 hts gX5_90 rfl rfl rfl (by decide +kernel) ⟨Nat.le_of_ble_eq_true rfl, Nat.le_of_ble_eq_true rfl⟩) (preS_of hR hK _) rfl rfl hl.1 rfl (lv_room (Nat.le_of_ble_eq_true rfl)) dX5_pay_62 ⟨nle0 hm, nle0 hn⟩) hA hR hS (fun H locs hR hS => ?_)
        have hKA := KA_same hKA g99
        have hLX := LX_same hLX g99
        refine lv_aload_n hx hb dX5_pay_65 rfl (lv_at hl 0 rfl) ?_
        refine va_getN (D := D) (ci := 1) (C := RX0) (T := TX0) (N := 8) hx hb hts iuX0 hown hK.1 (WW_one hR (f := 2) (i := a1.toNatClampNeg) (vin_lt g17)) 0 rfl rfl 0 (by decide) (nw_f hK.2 q_102) (fun _ h9 => h9) rfl dX5_pay_66 ?_
        refine lv_l2i hx hb dX5_pay_69 rfl ?_
        cases hf
        exact retx_i hC hKA hLX hR hS (nfin hm) (nfin hn) dX5_pay_70
      · have c88 : ¬ ((q86.1 + (Int32.toInt64 a2)) < 0) := fun q => c880 ((lg_cmp_lt _ _).mpr q)
        have hf := if_of_neg hf c88
        refine lv_iconst (v := 1) hx hb dX5_pay_51 (by decide) ?_
        refine lv_goto (tgt := 56) hx hb dX5_pay_52 (by decide) ?_
        rcases xb_of hf with ⟨e101, m102, n103, hcq100, rfl, hem, hen⟩ | ⟨q100, m102, n103, m104, n105, hcq100, hf, hem, hen⟩
        · refine kcx_v (vx_runS (As := [.int 1]) (rest := []) ⟨hx, hb, hml, hown, hts⟩ (mX5_demandState l hst D dA ad71 q86.2 _ x mi 1 (.inl e101) m102 n103 hcq100) (va_cwS 1 hts gX5_82 rfl rfl rfl (by decide +kernel) ⟨Nat.le_of_ble_eq_true rfl, Nat.le_of_ble_eq_true rfl⟩) (preSA_of hA hR hS hK hX hLX _) rfl rfl hl.1 rfl (lv_room (Nat.le_of_ble_eq_true rfl)) dX5_pay_56 ⟨nleq hm hem, nleq hn hen⟩) hA hR hS (fun k σ' ad' H1 locs1 E ce q9 eo hEk hka hLX hR hS h1 h2 h3 => ?_) (fun _ _ _ _ eo => nomatch eo)
          cases eo
          exact passx hC hE hEk (KA_tr hKA hka (by decide)) hLX hR hS h1 h2 h3 (nleq hm hem) (nleq hn hen)
        refine kcx_vR (q := q100) (vx_runS (As := [.int 1]) (rest := []) ⟨hx, hb, hml, hown, hts⟩ (mX5_demandState l hst D dA ad71 q86.2 _ x mi 1 (.inr q100) m102 n103 hcq100) (va_cwS 1 hts gX5_82 rfl rfl rfl (by decide +kernel) ⟨Nat.le_of_ble_eq_true rfl, Nat.le_of_ble_eq_true rfl⟩) (preSA_of hA hR hS hK hX hLX _) rfl rfl hl.1 rfl (lv_room (Nat.le_of_ble_eq_true rfl)) dX5_pay_56 ⟨nle hm hem, nle hn hen⟩) hA hR hS (fun ad106 H locs hka hLX hR hS => ?_)
        have e107 := (hka 2 a1.toNatClampNeg (vin_lt g17) (by decide)).1
        have e108 := (hka 0 0 rfl (by decide)).1
        have hl : lv_has ls 4 [(3, .ref (ad106 2 a1.toNatClampNeg)), (0, .ref (ad106 0 0)), (1, .int a1), (2, .int a2)] := by rw [e107, e108]; exact hl
        have hKA := KA_tr hKA hka (by decide)
        have hm := nadd hm hem
        have hn := nadd hn hen
        refine lv_aload_n hx hb dX5_pay_59 rfl (lv_at hl 0 rfl) ?_
        refine lv_iload_n hx hb dX5_pay_60 rfl (lv_at hl 3 rfl) ?_
        refine lv_i2l hx hb dX5_pay_61 rfl ?_
        obtain ⟨q109, hcq109, hf⟩ := bd_of hf
        obtain ⟨g110, hf⟩ := gd_of hf
        refine kc_v (va_runS (As := [.ref (ad106 2 a1.toNatClampNeg), .long (Int32.toInt64 a2)]) (rest := []) ⟨hx, hb, hml, hown, hts⟩ (mX5_receiveFromOutside l D dA ad106 q100 _ a1.toNatClampNeg (Int32.toInt64 a2) q109 hcq109 (vin_lt g17)) (va_cwS 2 hts gX5_90 rfl rfl rfl (by decide +kernel) ⟨Nat.le_of_ble_eq_true rfl, Nat.le_of_ble_eq_true rfl⟩) (preS_of hR hK _) rfl rfl hl.1 rfl (lv_room (Nat.le_of_ble_eq_true rfl)) dX5_pay_62 ⟨nle0 hm, nle0 hn⟩) hA hR hS (fun H locs hR hS => ?_)
        have hKA := KA_same hKA g110
        have hLX := LX_same hLX g110
        refine lv_aload_n hx hb dX5_pay_65 rfl (lv_at hl 0 rfl) ?_
        refine va_getN (D := D) (ci := 1) (C := RX0) (T := TX0) (N := 8) hx hb hts iuX0 hown hK.1 (WW_one hR (f := 2) (i := a1.toNatClampNeg) (vin_lt g17)) 0 rfl rfl 0 (by decide) (nw_f hK.2 q_102) (fun _ h9 => h9) rfl dX5_pay_66 ?_
        refine lv_l2i hx hb dX5_pay_69 rfl ?_
        cases hf
        exact retx_i hC hKA hLX hR hS (nfin hm) (nfin hn) dX5_pay_70
def fX5_bring (σ : St) (a1 : Int32) (a2 : Int32) (a3 : Int32) : Option ((XO (Int32 × St)) × Nat × Nat) := xb (fX5_demandMember σ a1) (fun q1 => xb (fX5_demandKind q1 a2) (fun q9 => xb (fX5_demandWithin q9 a3 (-1000) 1000) (fun q17 => gd (vin a1 5) (gd (vin a2 2) (kst (gI q17 3 a1.toNatClampNeg a2.toNatClampNeg) (fun x27 => kst (x27 + a3) (fun x28 => if ¬ (gI q17 0 a1.toNatClampNeg 0) = 0 then xb (fX5_demandState q17 0) (fun q30 => if 0 ≤ a3 then xb (fX5_demandState q30 1) (fun q40 => gd (vin a2 2) (some (.inr (x28, pI q40 3 a1.toNatClampNeg a2.toNatClampNeg x28), 0, 0))) else bd (fX5_freeOf q30 a1) (fun q50 => gd (sameN q50.2 q30) (bd (fX5_worthOf q50.2 a2 x27) (fun q52 => bd (fX5_worthOf q50.2 a2 x28) (fun q53 => if ((q50.1 - q52) + q53) < 0 then xb (fX5_demandState q50.2 0) (fun q55 => gd (vin a2 2) (some (.inr (x28, pI q55 3 a1.toNatClampNeg a2.toNatClampNeg x28), 0, 0))) else xb (fX5_demandState q50.2 1) (fun q65 => gd (vin a2 2) (some (.inr (x28, pI q65 3 a1.toNatClampNeg a2.toNatClampNeg x28), 0, 0)))))))) else if x28 < 0 then xb (fX5_demandState q17 0) (fun q76 => if 0 ≤ a3 then xb (fX5_demandState q76 1) (fun q86 => gd (vin a2 2) (some (.inr (x28, pI q86 3 a1.toNatClampNeg a2.toNatClampNeg x28), 0, 0))) else bd (fX5_freeOf q76 a1) (fun q96 => gd (sameN q96.2 q76) (bd (fX5_worthOf q96.2 a2 x27) (fun q98 => bd (fX5_worthOf q96.2 a2 x28) (fun q99 => if ((q96.1 - q98) + q99) < 0 then xb (fX5_demandState q96.2 0) (fun q101 => gd (vin a2 2) (some (.inr (x28, pI q101 3 a1.toNatClampNeg a2.toNatClampNeg x28), 0, 0))) else xb (fX5_demandState q96.2 1) (fun q111 => gd (vin a2 2) (some (.inr (x28, pI q111 3 a1.toNatClampNeg a2.toNatClampNeg x28), 0, 0)))))))) else if 1000 < x28 then xb (fX5_demandState q17 0) (fun q122 => if 0 ≤ a3 then xb (fX5_demandState q122 1) (fun q132 => gd (vin a2 2) (some (.inr (x28, pI q132 3 a1.toNatClampNeg a2.toNatClampNeg x28), 0, 0))) else bd (fX5_freeOf q122 a1) (fun q142 => gd (sameN q142.2 q122) (bd (fX5_worthOf q142.2 a2 x27) (fun q144 => bd (fX5_worthOf q142.2 a2 x28) (fun q145 => if ((q142.1 - q144) + q145) < 0 then xb (fX5_demandState q142.2 0) (fun q147 => gd (vin a2 2) (some (.inr (x28, pI q147 3 a1.toNatClampNeg a2.toNatClampNeg x28), 0, 0))) else xb (fX5_demandState q142.2 1) (fun q157 => gd (vin a2 2) (some (.inr (x28, pI q157 3 a1.toNatClampNeg a2.toNatClampNeg x28), 0, 0)))))))) else xb (fX5_demandState q17 1) (fun q167 => if 0 ≤ a3 then xb (fX5_demandState q167 1) (fun q177 => gd (vin a2 2) (some (.inr (x28, pI q177 3 a1.toNatClampNeg a2.toNatClampNeg x28), 0, 0))) else bd (fX5_freeOf q167 a1) (fun q187 => gd (sameN q187.2 q167) (bd (fX5_worthOf q187.2 a2 x27) (fun q189 => bd (fX5_worthOf q187.2 a2 x28) (fun q190 => if ((q187.1 - q189) + q190) < 0 then xb (fX5_demandState q187.2 0) (fun q192 => gd (vin a2 2) (some (.inr (x28, pI q192 3 a1.toNatClampNeg a2.toNatClampNeg x28), 0, 0))) else xb (fX5_demandState q187.2 1) (fun q202 => gd (vin a2 2) (some (.inr (x28, pI q202 3 a1.toNatClampNeg a2.toNatClampNeg x28), 0, 0)))))))))))))))
set_option maxHeartbeats 4000000 in
set_option maxRecDepth 100000 in
theorem mX5_bring (l : Launch) (hst : l.stackTraces = false) (D : va_G) (dA : Nat → ClassId) (ad : Nat → Nat → Nat) (σ : St) (sz x mi : Nat) (a1 : Int32) (a2 : Int32) (a3 : Int32) (o : XO (Int32 × St)) (mc ms : Nat) (hf : fX5_bring σ a1 a2 a3 = some (o, mc, ms)) : vx_Met l yX5_bring (WSy yX5_bring cX5_bring 7 (some .int)) ({ frames := 8, cells := mc, slots := ms, locals := 143 } : Room) (va_Pc [.ref (ad 0 0), .int a1, .int a2, .int a3] (PreA D dA ad σ x mi sz)) (QXi o D dA [] ad σ x (WA ad (cvC σ) sz)) (XXC o D dA [] ad σ x (WA ad (cvC σ) sz)) mc ms (WA ad (cvC σ) sz) := by
  refine metx_of (by decide) (Nat.le_of_ble_eq_true rfl) ?_
  intro p e s m below meth c ls hC hE hB hl
  obtain ⟨rfl, hR, hK, hX, hLX⟩ := hB
  have hA : ∀ q : Nat, s.heap.size ≤ q → WA ad (cvC σ) s.heap.size q := fun q h => Or.inr h
  have hR := WW_fit (B := WA ad (cvC σ) s.heap.size) hR (fun f i h => WA_in h)
  have hS : va_S (WA ad (cvC σ) s.heap.size) s.heap s.heap [] := va_S.rf
  generalize WA ad (cvC σ) s.heap.size = A0 at hA hR hS hX ⊢
  have hC : CTX p s m _ meth c cX5_bring 7 RX5 (some .int) := hC
  obtain ⟨hx, hb, hml, hown, hts, hr, hlk⟩ := id hC
  have hl : lv_has ls 7 [(0, .ref (ad 0 0)), (1, .int a1), (2, .int a2), (3, .int a3)] := hl
  have hKA : KA [] ad ad σ σ := KA_rf _ _ _
  have hm : mc = 0 + mc := (Nat.zero_add mc).symm
  have hn : ms = 0 + ms := (Nat.zero_add ms).symm
  unfold fX5_bring at hf
  refine lv_iload_n hx hb dX5_bring_0 rfl (lv_at hl 1 rfl) ?_
  rcases xb_of hf with ⟨e2, m3, n4, hcq1, rfl, hem, hen⟩ | ⟨q1, m3, n4, m5, n6, hcq1, hf, hem, hen⟩
  · refine kcx_v (vx_runS (As := [.int a1]) (rest := []) ⟨hx, hb, hml, hown, hts⟩ (mX5_demandMember l hst D dA ad σ _ x mi a1 (.inl e2) m3 n4 hcq1) (va_cwS 1 hts gX5_73 rfl rfl rfl (by decide +kernel) ⟨Nat.le_of_ble_eq_true rfl, Nat.le_of_ble_eq_true rfl⟩) (preSA_of hA hR hS hK hX hLX _) rfl rfl hl.1 rfl (lv_room (Nat.le_of_ble_eq_true rfl)) dX5_bring_1 ⟨nleq hm hem, nleq hn hen⟩) hA hR hS (fun k σ' ad' H1 locs1 E ce q9 eo hEk hka hLX hR hS h1 h2 h3 => ?_) (fun _ _ _ _ eo => nomatch eo)
    cases eo
    exact passx hC hE hEk (KA_tr hKA hka (by decide)) hLX hR hS h1 h2 h3 (nleq hm hem) (nleq hn hen)
  refine kcx_vR (q := q1) (vx_runS (As := [.int a1]) (rest := []) ⟨hx, hb, hml, hown, hts⟩ (mX5_demandMember l hst D dA ad σ _ x mi a1 (.inr q1) m3 n4 hcq1) (va_cwS 1 hts gX5_73 rfl rfl rfl (by decide +kernel) ⟨Nat.le_of_ble_eq_true rfl, Nat.le_of_ble_eq_true rfl⟩) (preSA_of hA hR hS hK hX hLX _) rfl rfl hl.1 rfl (lv_room (Nat.le_of_ble_eq_true rfl)) dX5_bring_1 ⟨nle hm hem, nle hn hen⟩) hA hR hS (fun ad7 H locs hka hLX hR hS => ?_)
  have e8 := (hka 0 0 rfl (by decide)).1
  have hl : lv_has ls 7 [(0, .ref (ad7 0 0)), (1, .int a1), (2, .int a2), (3, .int a3)] := by rw [e8]; exact hl
  have hKA := KA_tr hKA hka (by decide)
  have hm := nadd hm hem
  have hn := nadd hn hen
  refine lv_iload_n hx hb dX5_bring_4 rfl (lv_at hl 2 rfl) ?_
  rcases xb_of hf with ⟨e10, m11, n12, hcq9, rfl, hem, hen⟩ | ⟨q9, m11, n12, m13, n14, hcq9, hf, hem, hen⟩
  · refine kcx_v (vx_runS (As := [.int a2]) (rest := []) ⟨hx, hb, hml, hown, hts⟩ (mX5_demandKind l hst D dA ad7 q1 _ x mi a2 (.inl e10) m11 n12 hcq9) (va_cwS 1 hts gX5_60 rfl rfl rfl (by decide +kernel) ⟨Nat.le_of_ble_eq_true rfl, Nat.le_of_ble_eq_true rfl⟩) (preSA_of hA hR hS hK hX hLX _) rfl rfl hl.1 rfl (lv_room (Nat.le_of_ble_eq_true rfl)) dX5_bring_5 ⟨nleq hm hem, nleq hn hen⟩) hA hR hS (fun k σ' ad' H1 locs1 E ce q9 eo hEk hka hLX hR hS h1 h2 h3 => ?_) (fun _ _ _ _ eo => nomatch eo)
    cases eo
    exact passx hC hE hEk (KA_tr hKA hka (by decide)) hLX hR hS h1 h2 h3 (nleq hm hem) (nleq hn hen)
  refine kcx_vR (q := q9) (vx_runS (As := [.int a2]) (rest := []) ⟨hx, hb, hml, hown, hts⟩ (mX5_demandKind l hst D dA ad7 q1 _ x mi a2 (.inr q9) m11 n12 hcq9) (va_cwS 1 hts gX5_60 rfl rfl rfl (by decide +kernel) ⟨Nat.le_of_ble_eq_true rfl, Nat.le_of_ble_eq_true rfl⟩) (preSA_of hA hR hS hK hX hLX _) rfl rfl hl.1 rfl (lv_room (Nat.le_of_ble_eq_true rfl)) dX5_bring_5 ⟨nle hm hem, nle hn hen⟩) hA hR hS (fun ad15 H locs hka hLX hR hS => ?_)
  have e16 := (hka 0 0 rfl (by decide)).1
  have hl : lv_has ls 7 [(0, .ref (ad15 0 0)), (1, .int a1), (2, .int a2), (3, .int a3)] := by rw [e16]; exact hl
  have hKA := KA_tr hKA hka (by decide)
  have hm := nadd hm hem
  have hn := nadd hn hen
  refine lv_iload_n hx hb dX5_bring_8 rfl (lv_at hl 3 rfl) ?_
  refine lv_sipush (v := (-1000)) hx hb dX5_bring_9 (by decide) ?_
  refine lv_sipush (v := 1000) hx hb dX5_bring_12 (by decide) ?_
  rcases xb_of hf with ⟨e18, m19, n20, hcq17, rfl, hem, hen⟩ | ⟨q17, m19, n20, m21, n22, hcq17, hf, hem, hen⟩
  · refine kcx_v (vx_runS (As := [.int a3, .int (-1000), .int 1000]) (rest := []) ⟨hx, hb, hml, hown, hts⟩ (mX5_demandWithin l hst D dA ad15 q9 _ x mi a3 (-1000) 1000 (.inl e18) m19 n20 hcq17) (va_cwS 3 hts gX5_48 rfl rfl rfl (by decide +kernel) ⟨Nat.le_of_ble_eq_true rfl, Nat.le_of_ble_eq_true rfl⟩) (preSA_of hA hR hS hK hX hLX _) rfl rfl hl.1 rfl (lv_room (Nat.le_of_ble_eq_true rfl)) dX5_bring_15 ⟨nleq hm hem, nleq hn hen⟩) hA hR hS (fun k σ' ad' H1 locs1 E ce q9 eo hEk hka hLX hR hS h1 h2 h3 => ?_) (fun _ _ _ _ eo => nomatch eo)
    cases eo
    exact passx hC hE hEk (KA_tr hKA hka (by decide)) hLX hR hS h1 h2 h3 (nleq hm hem) (nleq hn hen)
  refine kcx_vR (q := q17) (vx_runS (As := [.int a3, .int (-1000), .int 1000]) (rest := []) ⟨hx, hb, hml, hown, hts⟩ (mX5_demandWithin l hst D dA ad15 q9 _ x mi a3 (-1000) 1000 (.inr q17) m19 n20 hcq17) (va_cwS 3 hts gX5_48 rfl rfl rfl (by decide +kernel) ⟨Nat.le_of_ble_eq_true rfl, Nat.le_of_ble_eq_true rfl⟩) (preSA_of hA hR hS hK hX hLX _) rfl rfl hl.1 rfl (lv_room (Nat.le_of_ble_eq_true rfl)) dX5_bring_15 ⟨nle hm hem, nle hn hen⟩) hA hR hS (fun ad23 H locs hka hLX hR hS => ?_)
  have e24 := (hka 0 0 rfl (by decide)).1
  have hl : lv_has ls 7 [(0, .ref (ad23 0 0)), (1, .int a1), (2, .int a2), (3, .int a3)] := by rw [e24]; exact hl
  have hKA := KA_tr hKA hka (by decide)
  have hm := nadd hm hem
  have hn := nadd hn hen
  refine lv_aload_n hx hb dX5_bring_18 rfl (lv_at hl 0 rfl) ?_
  refine va_get (D := D) (ci := 6) (C := RX5) (T := TX5) (N := 8) hx hb hts iuX5 hown hK.1 (WW_one hR (f := 0) (i := 0) rfl) 0 rfl rfl 0 (by decide) (hts _ q_164) (fun _ h9 => h9) rfl dX5_bring_19 ?_
  refine lv_iload_n hx hb dX5_bring_22 rfl (lv_at hl 1 rfl) ?_
  obtain ⟨g25, hf⟩ := gd_of hf
  refine va_aldq (C := RX0) hx hb hK.1 (WW_one hR (f := 1) (i := 0) rfl) 0 3 rfl rfl g25 dX5_bring_23 ?_
  refine lv_astore (lv' := [(4, .ref (ad23 2 a1.toNatClampNeg)), (0, .ref (ad23 0 0)), (1, .int a1), (2, .int a2), (3, .int a3)]) hx hb dX5_bring_24 hl (by decide) rfl (fun ls hl => ?_)
  refine lv_aload hx hb dX5_bring_26 (lv_at hl 0 rfl) ?_
  refine va_getN (D := D) (ci := 1) (C := RX0) (T := TX0) (N := 8) hx hb hts iuX0 hown hK.1 (WW_one hR (f := 2) (i := a1.toNatClampNeg) (vin_lt g25)) 0 rfl rfl 5 (by decide) (nw_f hK.2 q_109) (fun _ h9 => h9) rfl dX5_bring_28 ?_
  refine lv_iload_n hx hb dX5_bring_31 rfl (lv_at hl 3 rfl) ?_
  obtain ⟨g26, hf⟩ := gd_of hf
  refine va_iald hx hb hK.1 (WW_one hR (f := 3) (i := a1.toNatClampNeg) (vin_lt g25)) 0 0 rfl rfl g26 dX5_bring_32 ?_
  refine lv_topi (fun x27 hx27 => ?_)
  have hf := kst_eq hx27 hf
  refine lv_istore (lv' := [(5, .int x27), (4, .ref (ad23 2 a1.toNatClampNeg)), (0, .ref (ad23 0 0)), (1, .int a1), (2, .int a2), (3, .int a3)]) hx hb dX5_bring_33 hl (by decide) rfl (fun ls hl => ?_)
  refine lv_iload hx hb dX5_bring_35 (lv_at hl 0 rfl) ?_
  refine lv_iload_n hx hb dX5_bring_37 rfl (lv_at hl 5 rfl) ?_
  refine lv_iadd hx hb dX5_bring_38 ?_
  refine lv_topi (fun x28 hx28 => ?_)
  have hf := kst_eq hx28 hf
  refine lv_istore (lv' := [(6, .int x28), (5, .int x27), (4, .ref (ad23 2 a1.toNatClampNeg)), (0, .ref (ad23 0 0)), (1, .int a1), (2, .int a2), (3, .int a3)]) hx hb dX5_bring_39 hl (by decide) rfl (fun ls hl => ?_)
  refine lv_aload hx hb dX5_bring_41 (lv_at hl 2 rfl) ?_
  refine va_getN (D := D) (ci := 1) (C := RX0) (T := TX0) (N := 8) hx hb hts iuX0 hown hK.1 (WW_one hR (f := 2) (i := a1.toNatClampNeg) (vin_lt g25)) 0 rfl rfl 3 (by decide) (nw_f hK.2 q_105) (fun _ h9 => h9) rfl dX5_bring_43 ?_
  refine lv_if_ne (tgt := 66) hx hb dX5_bring_46 (by decide) (fun c29 => ?_) (fun c29 => ?_)
  · have hf := if_of_pos hf c29
    refine lv_iconst (v := 0) hx hb dX5_bring_66 (by decide) ?_
    rcases xb_of hf with ⟨e31, m32, n33, hcq30, rfl, hem, hen⟩ | ⟨q30, m32, n33, m34, n35, hcq30, hf, hem, hen⟩
    · refine kcx_v (vx_runS (As := [.int 0]) (rest := []) ⟨hx, hb, hml, hown, hts⟩ (mX5_demandState l hst D dA ad23 q17 _ x mi 0 (.inl e31) m32 n33 hcq30) (va_cwS 1 hts gX5_82 rfl rfl rfl (by decide +kernel) ⟨Nat.le_of_ble_eq_true rfl, Nat.le_of_ble_eq_true rfl⟩) (preSA_of hA hR hS hK hX hLX _) rfl rfl hl.1 rfl (lv_room (Nat.le_of_ble_eq_true rfl)) dX5_bring_67 ⟨nleq hm hem, nleq hn hen⟩) hA hR hS (fun k σ' ad' H1 locs1 E ce q9 eo hEk hka hLX hR hS h1 h2 h3 => ?_) (fun _ _ _ _ eo => nomatch eo)
      cases eo
      exact passx hC hE hEk (KA_tr hKA hka (by decide)) hLX hR hS h1 h2 h3 (nleq hm hem) (nleq hn hen)
    refine kcx_vR (q := q30) (vx_runS (As := [.int 0]) (rest := []) ⟨hx, hb, hml, hown, hts⟩ (mX5_demandState l hst D dA ad23 q17 _ x mi 0 (.inr q30) m32 n33 hcq30) (va_cwS 1 hts gX5_82 rfl rfl rfl (by decide +kernel) ⟨Nat.le_of_ble_eq_true rfl, Nat.le_of_ble_eq_true rfl⟩) (preSA_of hA hR hS hK hX hLX _) rfl rfl hl.1 rfl (lv_room (Nat.le_of_ble_eq_true rfl)) dX5_bring_67 ⟨nle hm hem, nle hn hen⟩) hA hR hS (fun ad36 H locs hka hLX hR hS => ?_)
    have e37 := (hka 2 a1.toNatClampNeg (vin_lt g25) (by decide)).1
    have e38 := (hka 0 0 rfl (by decide)).1
    have hl : lv_has ls 7 [(6, .int x28), (5, .int x27), (4, .ref (ad36 2 a1.toNatClampNeg)), (0, .ref (ad36 0 0)), (1, .int a1), (2, .int a2), (3, .int a3)] := by rw [e37, e38]; exact hl
    have hKA := KA_tr hKA hka (by decide)
    have hm := nadd hm hem
    have hn := nadd hn hen
    refine lv_iload_n hx hb dX5_bring_70 rfl (lv_at hl 6 rfl) ?_
    refine lv_if_ge (tgt := 100) hx hb dX5_bring_71 (by decide) (fun c39 => ?_) (fun c39 => ?_)
    · have hf := if_of_pos hf c39
      refine lv_iconst (v := 1) hx hb dX5_bring_100 (by decide) ?_
      refine lv_goto (tgt := 105) hx hb dX5_bring_101 (by decide) ?_
      rcases xb_of hf with ⟨e41, m42, n43, hcq40, rfl, hem, hen⟩ | ⟨q40, m42, n43, m44, n45, hcq40, hf, hem, hen⟩
      · refine kcx_v (vx_runS (As := [.int 1]) (rest := []) ⟨hx, hb, hml, hown, hts⟩ (mX5_demandState l hst D dA ad36 q30 _ x mi 1 (.inl e41) m42 n43 hcq40) (va_cwS 1 hts gX5_82 rfl rfl rfl (by decide +kernel) ⟨Nat.le_of_ble_eq_true rfl, Nat.le_of_ble_eq_true rfl⟩) (preSA_of hA hR hS hK hX hLX _) rfl rfl hl.1 rfl (lv_room (Nat.le_of_ble_eq_true rfl)) dX5_bring_105 ⟨nleq hm hem, nleq hn hen⟩) hA hR hS (fun k σ' ad' H1 locs1 E ce q9 eo hEk hka hLX hR hS h1 h2 h3 => ?_) (fun _ _ _ _ eo => nomatch eo)
        cases eo
        exact passx hC hE hEk (KA_tr hKA hka (by decide)) hLX hR hS h1 h2 h3 (nleq hm hem) (nleq hn hen)
      refine kcx_vR (q := q40) (vx_runS (As := [.int 1]) (rest := []) ⟨hx, hb, hml, hown, hts⟩ (mX5_demandState l hst D dA ad36 q30 _ x mi 1 (.inr q40) m42 n43 hcq40) (va_cwS 1 hts gX5_82 rfl rfl rfl (by decide +kernel) ⟨Nat.le_of_ble_eq_true rfl, Nat.le_of_ble_eq_true rfl⟩) (preSA_of hA hR hS hK hX hLX _) rfl rfl hl.1 rfl (lv_room (Nat.le_of_ble_eq_true rfl)) dX5_bring_105 ⟨nle hm hem, nle hn hen⟩) hA hR hS (fun ad46 H locs hka hLX hR hS => ?_)
      have e47 := (hka 2 a1.toNatClampNeg (vin_lt g25) (by decide)).1
      have e48 := (hka 0 0 rfl (by decide)).1
      have hl : lv_has ls 7 [(6, .int x28), (5, .int x27), (4, .ref (ad46 2 a1.toNatClampNeg)), (0, .ref (ad46 0 0)), (1, .int a1), (2, .int a2), (3, .int a3)] := by rw [e47, e48]; exact hl
      have hKA := KA_tr hKA hka (by decide)
      have hm := nadd hm hem
      have hn := nadd hn hen
      refine lv_aload hx hb dX5_bring_108 (lv_at hl 2 rfl) ?_
      refine va_getN (D := D) (ci := 1) (C := RX0) (T := TX0) (N := 8) hx hb hts iuX0 hown hK.1 (WW_one hR (f := 2) (i := a1.toNatClampNeg) (vin_lt g25)) 0 rfl rfl 5 (by decide) (nw_f hK.2 q_109) (fun _ h9 => h9) rfl dX5_bring_110 ?_
      refine lv_iload_n hx hb dX5_bring_113 rfl (lv_at hl 5 rfl) ?_
      refine lv_iload hx hb dX5_bring_114 (lv_at hl 0 rfl) ?_
      obtain ⟨g49, hf⟩ := gd_of hf
      refine ww_iast hx hb hK.1 hR hS 0 (f := 3) (j := a1.toNatClampNeg) (vin_lt g25) rfl rfl g49 dX5_bring_116 (fun H locs hR hS => ?_)
      have hR := HC_row3 a1.toNatClampNeg (a2.toNatClampNeg) x28 hR
      have hKA := KA_same (b := pI q40 3 a1.toNatClampNeg a2.toNatClampNeg x28) hKA ⟨rfl, rfl, rfl, rfl, rfl, rfl, rfl⟩
      have hLX := LX_same (b := pI q40 3 a1.toNatClampNeg a2.toNatClampNeg x28) hLX ⟨rfl, rfl, rfl, rfl, rfl, rfl, rfl⟩
      refine lv_iload hx hb dX5_bring_117 (lv_at hl 0 rfl) ?_
      cases hf
      exact retx_i hC hKA hLX hR hS (nfin hm) (nfin hn) dX5_bring_119
    · have hf := if_of_neg hf c39
      refine lv_aload_n hx hb dX5_bring_74 rfl (lv_at hl 3 rfl) ?_
      refine lv_iload_n hx hb dX5_bring_75 rfl (lv_at hl 4 rfl) ?_
      obtain ⟨q50, hcq50, hf⟩ := bd_of hf
      obtain ⟨g51, hf⟩ := gd_of hf
      refine kc_l (va_runV (As := [.int a1]) (rest := []) ⟨hx, hb, hml, hown, hts⟩ (mX5_freeOf l D dA ad36 q30 _ a1 q50.1 q50.2 hcq50) (cwV 1 hts gX5_86 rfl rfl rfl (by decide +kernel) ⟨Nat.le_of_ble_eq_true rfl, Nat.le_of_ble_eq_true rfl⟩) (preV_of hR hK (f := 0) (i := 0) rfl rfl rfl _) rfl rfl hl.1 rfl (lv_room (Nat.le_of_ble_eq_true rfl)) dX5_bring_76 ⟨nle0 hm, nle0 hn⟩) hA hR hS (fun H locs hR hS => ?_)
      have hKA := KA_same hKA g51
      have hLX := LX_same hLX g51
      refine lv_aload_n hx hb dX5_bring_79 rfl (lv_at hl 3 rfl) ?_
      refine lv_iload_n hx hb dX5_bring_80 rfl (lv_at hl 5 rfl) ?_
      refine lv_iload hx hb dX5_bring_81 (lv_at hl 1 rfl) ?_
      obtain ⟨q52, hcq52, hf⟩ := bd_of hf
      refine kc_l (va_runV (As := [.int a2, .int x27]) (rest := [.long q50.1]) ⟨hx, hb, hml, hown, hts⟩ (mX5_worthOf l D dA ad36 q50.2 _ a2 x27 q52 hcq52) (cwV 2 hts gX5_101 rfl rfl rfl (by decide +kernel) ⟨Nat.le_of_ble_eq_true rfl, Nat.le_of_ble_eq_true rfl⟩) (preV_of hR hK (f := 0) (i := 0) rfl rfl rfl _) rfl rfl hl.1 rfl (lv_room (Nat.le_of_ble_eq_true rfl)) dX5_bring_83 ⟨nle0 hm, nle0 hn⟩) hA hR hS (fun H locs hR hS => ?_)
      refine lv_lsub hx hb dX5_bring_86 ?_
      refine lv_aload_n hx hb dX5_bring_87 rfl (lv_at hl 3 rfl) ?_
      refine lv_iload_n hx hb dX5_bring_88 rfl (lv_at hl 5 rfl) ?_
      refine lv_iload hx hb dX5_bring_89 (lv_at hl 0 rfl) ?_
      obtain ⟨q53, hcq53, hf⟩ := bd_of hf
      refine kc_l (va_runV (As := [.int a2, .int x28]) (rest := [.long (q50.1 - q52)]) ⟨hx, hb, hml, hown, hts⟩ (mX5_worthOf l D dA ad36 q50.2 _ a2 x28 q53 hcq53) (cwV 2 hts gX5_101 rfl rfl rfl (by decide +kernel) ⟨Nat.le_of_ble_eq_true rfl, Nat.le_of_ble_eq_true rfl⟩) (preV_of hR hK (f := 0) (i := 0) rfl rfl rfl _) rfl rfl hl.1 rfl (lv_room (Nat.le_of_ble_eq_true rfl)) dX5_bring_91 ⟨nle0 hm, nle0 hn⟩) hA hR hS (fun H locs hR hS => ?_)
      refine lv_ladd hx hb dX5_bring_94 ?_
      refine lv_lconst (v := 0) hx hb dX5_bring_95 (by decide) ?_
      refine W.lcmp hx hb dX5_bring_96 ?_
      refine lv_if_lt (tgt := 104) hx hb dX5_bring_97 (by decide) (fun c540 => ?_) (fun c540 => ?_)
      · have c54 : ((q50.1 - q52) + q53) < 0 := (lg_cmp_lt _ _).mp c540
        have hf := if_of_pos hf c54
        refine lv_iconst (v := 0) hx hb dX5_bring_104 (by decide) ?_
        rcases xb_of hf with ⟨e56, m57, n58, hcq55, rfl, hem, hen⟩ | ⟨q55, m57, n58, m59, n60, hcq55, hf, hem, hen⟩
        · refine kcx_v (vx_runS (As := [.int 0]) (rest := []) ⟨hx, hb, hml, hown, hts⟩ (mX5_demandState l hst D dA ad36 q50.2 _ x mi 0 (.inl e56) m57 n58 hcq55) (va_cwS 1 hts gX5_82 rfl rfl rfl (by decide +kernel) ⟨Nat.le_of_ble_eq_true rfl, Nat.le_of_ble_eq_true rfl⟩) (preSA_of hA hR hS hK hX hLX _) rfl rfl hl.1 rfl (lv_room (Nat.le_of_ble_eq_true rfl)) dX5_bring_105 ⟨nleq hm hem, nleq hn hen⟩) hA hR hS (fun k σ' ad' H1 locs1 E ce q9 eo hEk hka hLX hR hS h1 h2 h3 => ?_) (fun _ _ _ _ eo => nomatch eo)
          cases eo
          exact passx hC hE hEk (KA_tr hKA hka (by decide)) hLX hR hS h1 h2 h3 (nleq hm hem) (nleq hn hen)
        refine kcx_vR (q := q55) (vx_runS (As := [.int 0]) (rest := []) ⟨hx, hb, hml, hown, hts⟩ (mX5_demandState l hst D dA ad36 q50.2 _ x mi 0 (.inr q55) m57 n58 hcq55) (va_cwS 1 hts gX5_82 rfl rfl rfl (by decide +kernel) ⟨Nat.le_of_ble_eq_true rfl, Nat.le_of_ble_eq_true rfl⟩) (preSA_of hA hR hS hK hX hLX _) rfl rfl hl.1 rfl (lv_room (Nat.le_of_ble_eq_true rfl)) dX5_bring_105 ⟨nle hm hem, nle hn hen⟩) hA hR hS (fun ad61 H locs hka hLX hR hS => ?_)
        have e62 := (hka 2 a1.toNatClampNeg (vin_lt g25) (by decide)).1
        have e63 := (hka 0 0 rfl (by decide)).1
        have hl : lv_has ls 7 [(6, .int x28), (5, .int x27), (4, .ref (ad61 2 a1.toNatClampNeg)), (0, .ref (ad61 0 0)), (1, .int a1), (2, .int a2), (3, .int a3)] := by rw [e62, e63]; exact hl
        have hKA := KA_tr hKA hka (by decide)
        have hm := nadd hm hem
        have hn := nadd hn hen
        refine lv_aload hx hb dX5_bring_108 (lv_at hl 2 rfl) ?_
        refine va_getN (D := D) (ci := 1) (C := RX0) (T := TX0) (N := 8) hx hb hts iuX0 hown hK.1 (WW_one hR (f := 2) (i := a1.toNatClampNeg) (vin_lt g25)) 0 rfl rfl 5 (by decide) (nw_f hK.2 q_109) (fun _ h9 => h9) rfl dX5_bring_110 ?_
        refine lv_iload_n hx hb dX5_bring_113 rfl (lv_at hl 5 rfl) ?_
        refine lv_iload hx hb dX5_bring_114 (lv_at hl 0 rfl) ?_
        obtain ⟨g64, hf⟩ := gd_of hf
        refine ww_iast hx hb hK.1 hR hS 0 (f := 3) (j := a1.toNatClampNeg) (vin_lt g25) rfl rfl g64 dX5_bring_116 (fun H locs hR hS => ?_)
        have hR := HC_row3 a1.toNatClampNeg (a2.toNatClampNeg) x28 hR
        have hKA := KA_same (b := pI q55 3 a1.toNatClampNeg a2.toNatClampNeg x28) hKA ⟨rfl, rfl, rfl, rfl, rfl, rfl, rfl⟩
        have hLX := LX_same (b := pI q55 3 a1.toNatClampNeg a2.toNatClampNeg x28) hLX ⟨rfl, rfl, rfl, rfl, rfl, rfl, rfl⟩
        refine lv_iload hx hb dX5_bring_117 (lv_at hl 0 rfl) ?_
        cases hf
        exact retx_i hC hKA hLX hR hS (nfin hm) (nfin hn) dX5_bring_119
      · have c54 : ¬ (((q50.1 - q52) + q53) < 0) := fun q => c540 ((lg_cmp_lt _ _).mpr q)
        have hf := if_of_neg hf c54
        refine lv_iconst (v := 1) hx hb dX5_bring_100 (by decide) ?_
        refine lv_goto (tgt := 105) hx hb dX5_bring_101 (by decide) ?_
        rcases xb_of hf with ⟨e66, m67, n68, hcq65, rfl, hem, hen⟩ | ⟨q65, m67, n68, m69, n70, hcq65, hf, hem, hen⟩
        · refine kcx_v (vx_runS (As := [.int 1]) (rest := []) ⟨hx, hb, hml, hown, hts⟩ (mX5_demandState l hst D dA ad36 q50.2 _ x mi 1 (.inl e66) m67 n68 hcq65) (va_cwS 1 hts gX5_82 rfl rfl rfl (by decide +kernel) ⟨Nat.le_of_ble_eq_true rfl, Nat.le_of_ble_eq_true rfl⟩) (preSA_of hA hR hS hK hX hLX _) rfl rfl hl.1 rfl (lv_room (Nat.le_of_ble_eq_true rfl)) dX5_bring_105 ⟨nleq hm hem, nleq hn hen⟩) hA hR hS (fun k σ' ad' H1 locs1 E ce q9 eo hEk hka hLX hR hS h1 h2 h3 => ?_) (fun _ _ _ _ eo => nomatch eo)
          cases eo
          exact passx hC hE hEk (KA_tr hKA hka (by decide)) hLX hR hS h1 h2 h3 (nleq hm hem) (nleq hn hen)
        refine kcx_vR (q := q65) (vx_runS (As := [.int 1]) (rest := []) ⟨hx, hb, hml, hown, hts⟩ (mX5_demandState l hst D dA ad36 q50.2 _ x mi 1 (.inr q65) m67 n68 hcq65) (va_cwS 1 hts gX5_82 rfl rfl rfl (by decide +kernel) ⟨Nat.le_of_ble_eq_true rfl, Nat.le_of_ble_eq_true rfl⟩) (preSA_of hA hR hS hK hX hLX _) rfl rfl hl.1 rfl (lv_room (Nat.le_of_ble_eq_true rfl)) dX5_bring_105 ⟨nle hm hem, nle hn hen⟩) hA hR hS (fun ad71 H locs hka hLX hR hS => ?_)
        have e72 := (hka 2 a1.toNatClampNeg (vin_lt g25) (by decide)).1
        have e73 := (hka 0 0 rfl (by decide)).1
        have hl : lv_has ls 7 [(6, .int x28), (5, .int x27), (4, .ref (ad71 2 a1.toNatClampNeg)), (0, .ref (ad71 0 0)), (1, .int a1), (2, .int a2), (3, .int a3)] := by rw [e72, e73]; exact hl
        have hKA := KA_tr hKA hka (by decide)
        have hm := nadd hm hem
        have hn := nadd hn hen
        refine lv_aload hx hb dX5_bring_108 (lv_at hl 2 rfl) ?_
        refine va_getN (D := D) (ci := 1) (C := RX0) (T := TX0) (N := 8) hx hb hts iuX0 hown hK.1 (WW_one hR (f := 2) (i := a1.toNatClampNeg) (vin_lt g25)) 0 rfl rfl 5 (by decide) (nw_f hK.2 q_109) (fun _ h9 => h9) rfl dX5_bring_110 ?_
        refine lv_iload_n hx hb dX5_bring_113 rfl (lv_at hl 5 rfl) ?_
        refine lv_iload hx hb dX5_bring_114 (lv_at hl 0 rfl) ?_
        obtain ⟨g74, hf⟩ := gd_of hf
        refine ww_iast hx hb hK.1 hR hS 0 (f := 3) (j := a1.toNatClampNeg) (vin_lt g25) rfl rfl g74 dX5_bring_116 (fun H locs hR hS => ?_)
        have hR := HC_row3 a1.toNatClampNeg (a2.toNatClampNeg) x28 hR
        have hKA := KA_same (b := pI q65 3 a1.toNatClampNeg a2.toNatClampNeg x28) hKA ⟨rfl, rfl, rfl, rfl, rfl, rfl, rfl⟩
        have hLX := LX_same (b := pI q65 3 a1.toNatClampNeg a2.toNatClampNeg x28) hLX ⟨rfl, rfl, rfl, rfl, rfl, rfl, rfl⟩
        refine lv_iload hx hb dX5_bring_117 (lv_at hl 0 rfl) ?_
        cases hf
        exact retx_i hC hKA hLX hR hS (nfin hm) (nfin hn) dX5_bring_119
  · have hf := if_of_neg hf (fun q => q c29)
    refine lv_iload hx hb dX5_bring_49 (lv_at hl 0 rfl) ?_
    refine lv_if_lt (tgt := 66) hx hb dX5_bring_51 (by decide) (fun c75 => ?_) (fun c75 => ?_)
    · have hf := if_of_pos hf c75
      refine lv_iconst (v := 0) hx hb dX5_bring_66 (by decide) ?_
      rcases xb_of hf with ⟨e77, m78, n79, hcq76, rfl, hem, hen⟩ | ⟨q76, m78, n79, m80, n81, hcq76, hf, hem, hen⟩
      · refine kcx_v (vx_runS (As := [.int 0]) (rest := []) ⟨hx, hb, hml, hown, hts⟩ (mX5_demandState l hst D dA ad23 q17 _ x mi 0 (.inl e77) m78 n79 hcq76) (va_cwS 1 hts gX5_82 rfl rfl rfl (by decide +kernel) ⟨Nat.le_of_ble_eq_true rfl, Nat.le_of_ble_eq_true rfl⟩) (preSA_of hA hR hS hK hX hLX _) rfl rfl hl.1 rfl (lv_room (Nat.le_of_ble_eq_true rfl)) dX5_bring_67 ⟨nleq hm hem, nleq hn hen⟩) hA hR hS (fun k σ' ad' H1 locs1 E ce q9 eo hEk hka hLX hR hS h1 h2 h3 => ?_) (fun _ _ _ _ eo => nomatch eo)
        cases eo
        exact passx hC hE hEk (KA_tr hKA hka (by decide)) hLX hR hS h1 h2 h3 (nleq hm hem) (nleq hn hen)
      refine kcx_vR (q := q76) (vx_runS (As := [.int 0]) (rest := []) ⟨hx, hb, hml, hown, hts⟩ (mX5_demandState l hst D dA ad23 q17 _ x mi 0 (.inr q76) m78 n79 hcq76) (va_cwS 1 hts gX5_82 rfl rfl rfl (by decide +kernel) ⟨Nat.le_of_ble_eq_true rfl, Nat.le_of_ble_eq_true rfl⟩) (preSA_of hA hR hS hK hX hLX _) rfl rfl hl.1 rfl (lv_room (Nat.le_of_ble_eq_true rfl)) dX5_bring_67 ⟨nle hm hem, nle hn hen⟩) hA hR hS (fun ad82 H locs hka hLX hR hS => ?_)
      have e83 := (hka 2 a1.toNatClampNeg (vin_lt g25) (by decide)).1
      have e84 := (hka 0 0 rfl (by decide)).1
      have hl : lv_has ls 7 [(6, .int x28), (5, .int x27), (4, .ref (ad82 2 a1.toNatClampNeg)), (0, .ref (ad82 0 0)), (1, .int a1), (2, .int a2), (3, .int a3)] := by rw [e83, e84]; exact hl
      have hKA := KA_tr hKA hka (by decide)
      have hm := nadd hm hem
      have hn := nadd hn hen
      refine lv_iload_n hx hb dX5_bring_70 rfl (lv_at hl 6 rfl) ?_
      refine lv_if_ge (tgt := 100) hx hb dX5_bring_71 (by decide) (fun c85 => ?_) (fun c85 => ?_)
      · have hf := if_of_pos hf c85
        refine lv_iconst (v := 1) hx hb dX5_bring_100 (by decide) ?_
        refine lv_goto (tgt := 105) hx hb dX5_bring_101 (by decide) ?_
        rcases xb_of hf with ⟨e87, m88, n89, hcq86, rfl, hem, hen⟩ | ⟨q86, m88, n89, m90, n91, hcq86, hf, hem, hen⟩
        · refine kcx_v (vx_runS (As := [.int 1]) (rest := []) ⟨hx, hb, hml, hown, hts⟩ (mX5_demandState l hst D dA ad82 q76 _ x mi 1 (.inl e87) m88 n89 hcq86) (va_cwS 1 hts gX5_82 rfl rfl rfl (by decide +kernel) ⟨Nat.le_of_ble_eq_true rfl, Nat.le_of_ble_eq_true rfl⟩) (preSA_of hA hR hS hK hX hLX _) rfl rfl hl.1 rfl (lv_room (Nat.le_of_ble_eq_true rfl)) dX5_bring_105 ⟨nleq hm hem, nleq hn hen⟩) hA hR hS (fun k σ' ad' H1 locs1 E ce q9 eo hEk hka hLX hR hS h1 h2 h3 => ?_) (fun _ _ _ _ eo => nomatch eo)
          cases eo
          exact passx hC hE hEk (KA_tr hKA hka (by decide)) hLX hR hS h1 h2 h3 (nleq hm hem) (nleq hn hen)
        refine kcx_vR (q := q86) (vx_runS (As := [.int 1]) (rest := []) ⟨hx, hb, hml, hown, hts⟩ (mX5_demandState l hst D dA ad82 q76 _ x mi 1 (.inr q86) m88 n89 hcq86) (va_cwS 1 hts gX5_82 rfl rfl rfl (by decide +kernel) ⟨Nat.le_of_ble_eq_true rfl, Nat.le_of_ble_eq_true rfl⟩) (preSA_of hA hR hS hK hX hLX _) rfl rfl hl.1 rfl (lv_room (Nat.le_of_ble_eq_true rfl)) dX5_bring_105 ⟨nle hm hem, nle hn hen⟩) hA hR hS (fun ad92 H locs hka hLX hR hS => ?_)
        have e93 := (hka 2 a1.toNatClampNeg (vin_lt g25) (by decide)).1
        have e94 := (hka 0 0 rfl (by decide)).1
        have hl : lv_has ls 7 [(6, .int x28), (5, .int x27), (4, .ref (ad92 2 a1.toNatClampNeg)), (0, .ref (ad92 0 0)), (1, .int a1), (2, .int a2), (3, .int a3)] := by rw [e93, e94]; exact hl
        have hKA := KA_tr hKA hka (by decide)
        have hm := nadd hm hem
        have hn := nadd hn hen
        refine lv_aload hx hb dX5_bring_108 (lv_at hl 2 rfl) ?_
        refine va_getN (D := D) (ci := 1) (C := RX0) (T := TX0) (N := 8) hx hb hts iuX0 hown hK.1 (WW_one hR (f := 2) (i := a1.toNatClampNeg) (vin_lt g25)) 0 rfl rfl 5 (by decide) (nw_f hK.2 q_109) (fun _ h9 => h9) rfl dX5_bring_110 ?_
        refine lv_iload_n hx hb dX5_bring_113 rfl (lv_at hl 5 rfl) ?_
        refine lv_iload hx hb dX5_bring_114 (lv_at hl 0 rfl) ?_
        obtain ⟨g95, hf⟩ := gd_of hf
        refine ww_iast hx hb hK.1 hR hS 0 (f := 3) (j := a1.toNatClampNeg) (vin_lt g25) rfl rfl g95 dX5_bring_116 (fun H locs hR hS => ?_)
        have hR := HC_row3 a1.toNatClampNeg (a2.toNatClampNeg) x28 hR
        have hKA := KA_same (b := pI q86 3 a1.toNatClampNeg a2.toNatClampNeg x28) hKA ⟨rfl, rfl, rfl, rfl, rfl, rfl, rfl⟩
        have hLX := LX_same (b := pI q86 3 a1.toNatClampNeg a2.toNatClampNeg x28) hLX ⟨rfl, rfl, rfl, rfl, rfl, rfl, rfl⟩
        refine lv_iload hx hb dX5_bring_117 (lv_at hl 0 rfl) ?_
        cases hf
        exact retx_i hC hKA hLX hR hS (nfin hm) (nfin hn) dX5_bring_119
      · have hf := if_of_neg hf c85
        refine lv_aload_n hx hb dX5_bring_74 rfl (lv_at hl 3 rfl) ?_
        refine lv_iload_n hx hb dX5_bring_75 rfl (lv_at hl 4 rfl) ?_
        obtain ⟨q96, hcq96, hf⟩ := bd_of hf
        obtain ⟨g97, hf⟩ := gd_of hf
        refine kc_l (va_runV (As := [.int a1]) (rest := []) ⟨hx, hb, hml, hown, hts⟩ (mX5_freeOf l D dA ad82 q76 _ a1 q96.1 q96.2 hcq96) (cwV 1 hts gX5_86 rfl rfl rfl (by decide +kernel) ⟨Nat.le_of_ble_eq_true rfl, Nat.le_of_ble_eq_true rfl⟩) (preV_of hR hK (f := 0) (i := 0) rfl rfl rfl _) rfl rfl hl.1 rfl (lv_room (Nat.le_of_ble_eq_true rfl)) dX5_bring_76 ⟨nle0 hm, nle0 hn⟩) hA hR hS (fun H locs hR hS => ?_)
        have hKA := KA_same hKA g97
        have hLX := LX_same hLX g97
        refine lv_aload_n hx hb dX5_bring_79 rfl (lv_at hl 3 rfl) ?_
        refine lv_iload_n hx hb dX5_bring_80 rfl (lv_at hl 5 rfl) ?_
        refine lv_iload hx hb dX5_bring_81 (lv_at hl 1 rfl) ?_
        obtain ⟨q98, hcq98, hf⟩ := bd_of hf
        refine kc_l (va_runV (As := [.int a2, .int x27]) (rest := [.long q96.1]) ⟨hx, hb, hml, hown, hts⟩ (mX5_worthOf l D dA ad82 q96.2 _ a2 x27 q98 hcq98) (cwV 2 hts gX5_101 rfl rfl rfl (by decide +kernel) ⟨Nat.le_of_ble_eq_true rfl, Nat.le_of_ble_eq_true rfl⟩) (preV_of hR hK (f := 0) (i := 0) rfl rfl rfl _) rfl rfl hl.1 rfl (lv_room (Nat.le_of_ble_eq_true rfl)) dX5_bring_83 ⟨nle0 hm, nle0 hn⟩) hA hR hS (fun H locs hR hS => ?_)
        refine lv_lsub hx hb dX5_bring_86 ?_
        refine lv_aload_n hx hb dX5_bring_87 rfl (lv_at hl 3 rfl) ?_
        refine lv_iload_n hx hb dX5_bring_88 rfl (lv_at hl 5 rfl) ?_
        refine lv_iload hx hb dX5_bring_89 (lv_at hl 0 rfl) ?_
        obtain ⟨q99, hcq99, hf⟩ := bd_of hf
        refine kc_l (va_runV (As := [.int a2, .int x28]) (rest := [.long (q96.1 - q98)]) ⟨hx, hb, hml, hown, hts⟩ (mX5_worthOf l D dA ad82 q96.2 _ a2 x28 q99 hcq99) (cwV 2 hts gX5_101 rfl rfl rfl (by decide +kernel) ⟨Nat.le_of_ble_eq_true rfl, Nat.le_of_ble_eq_true rfl⟩) (preV_of hR hK (f := 0) (i := 0) rfl rfl rfl _) rfl rfl hl.1 rfl (lv_room (Nat.le_of_ble_eq_true rfl)) dX5_bring_91 ⟨nle0 hm, nle0 hn⟩) hA hR hS (fun H locs hR hS => ?_)
        refine lv_ladd hx hb dX5_bring_94 ?_
        refine lv_lconst (v := 0) hx hb dX5_bring_95 (by decide) ?_
        refine W.lcmp hx hb dX5_bring_96 ?_
        refine lv_if_lt (tgt := 104) hx hb dX5_bring_97 (by decide) (fun c1000 => ?_) (fun c1000 => ?_)
        · have c100 : ((q96.1 - q98) + q99) < 0 := (lg_cmp_lt _ _).mp c1000
          have hf := if_of_pos hf c100
          refine lv_iconst (v := 0) hx hb dX5_bring_104 (by decide) ?_
          rcases xb_of hf with ⟨e102, m103, n104, hcq101, rfl, hem, hen⟩ | ⟨q101, m103, n104, m105, n106, hcq101, hf, hem, hen⟩
          · refine kcx_v (vx_runS (As := [.int 0]) (rest := []) ⟨hx, hb, hml, hown, hts⟩ (mX5_demandState l hst D dA ad82 q96.2 _ x mi 0 (.inl e102) m103 n104 hcq101) (va_cwS 1 hts gX5_82 rfl rfl rfl (by decide +kernel) ⟨Nat.le_of_ble_eq_true rfl, Nat.le_of_ble_eq_true rfl⟩) (preSA_of hA hR hS hK hX hLX _) rfl rfl hl.1 rfl (lv_room (Nat.le_of_ble_eq_true rfl)) dX5_bring_105 ⟨nleq hm hem, nleq hn hen⟩) hA hR hS (fun k σ' ad' H1 locs1 E ce q9 eo hEk hka hLX hR hS h1 h2 h3 => ?_) (fun _ _ _ _ eo => nomatch eo)
            cases eo
            exact passx hC hE hEk (KA_tr hKA hka (by decide)) hLX hR hS h1 h2 h3 (nleq hm hem) (nleq hn hen)
          refine kcx_vR (q := q101) (vx_runS (As := [.int 0]) (rest := []) ⟨hx, hb, hml, hown, hts⟩ (mX5_demandState l hst D dA ad82 q96.2 _ x mi 0 (.inr q101) m103 n104 hcq101) (va_cwS 1 hts gX5_82 rfl rfl rfl (by decide +kernel) ⟨Nat.le_of_ble_eq_true rfl, Nat.le_of_ble_eq_true rfl⟩) (preSA_of hA hR hS hK hX hLX _) rfl rfl hl.1 rfl (lv_room (Nat.le_of_ble_eq_true rfl)) dX5_bring_105 ⟨nle hm hem, nle hn hen⟩) hA hR hS (fun ad107 H locs hka hLX hR hS => ?_)
          have e108 := (hka 2 a1.toNatClampNeg (vin_lt g25) (by decide)).1
          have e109 := (hka 0 0 rfl (by decide)).1
          have hl : lv_has ls 7 [(6, .int x28), (5, .int x27), (4, .ref (ad107 2 a1.toNatClampNeg)), (0, .ref (ad107 0 0)), (1, .int a1), (2, .int a2), (3, .int a3)] := by rw [e108, e109]; exact hl
          have hKA := KA_tr hKA hka (by decide)
          have hm := nadd hm hem
          have hn := nadd hn hen
          refine lv_aload hx hb dX5_bring_108 (lv_at hl 2 rfl) ?_
          refine va_getN (D := D) (ci := 1) (C := RX0) (T := TX0) (N := 8) hx hb hts iuX0 hown hK.1 (WW_one hR (f := 2) (i := a1.toNatClampNeg) (vin_lt g25)) 0 rfl rfl 5 (by decide) (nw_f hK.2 q_109) (fun _ h9 => h9) rfl dX5_bring_110 ?_
          refine lv_iload_n hx hb dX5_bring_113 rfl (lv_at hl 5 rfl) ?_
          refine lv_iload hx hb dX5_bring_114 (lv_at hl 0 rfl) ?_
          obtain ⟨g110, hf⟩ := gd_of hf
          refine ww_iast hx hb hK.1 hR hS 0 (f := 3) (j := a1.toNatClampNeg) (vin_lt g25) rfl rfl g110 dX5_bring_116 (fun H locs hR hS => ?_)
          have hR := HC_row3 a1.toNatClampNeg (a2.toNatClampNeg) x28 hR
          have hKA := KA_same (b := pI q101 3 a1.toNatClampNeg a2.toNatClampNeg x28) hKA ⟨rfl, rfl, rfl, rfl, rfl, rfl, rfl⟩
          have hLX := LX_same (b := pI q101 3 a1.toNatClampNeg a2.toNatClampNeg x28) hLX ⟨rfl, rfl, rfl, rfl, rfl, rfl, rfl⟩
          refine lv_iload hx hb dX5_bring_117 (lv_at hl 0 rfl) ?_
          cases hf
          exact retx_i hC hKA hLX hR hS (nfin hm) (nfin hn) dX5_bring_119
        · have c100 : ¬ (((q96.1 - q98) + q99) < 0) := fun q => c1000 ((lg_cmp_lt _ _).mpr q)
          have hf := if_of_neg hf c100
          refine lv_iconst (v := 1) hx hb dX5_bring_100 (by decide) ?_
          refine lv_goto (tgt := 105) hx hb dX5_bring_101 (by decide) ?_
          rcases xb_of hf with ⟨e112, m113, n114, hcq111, rfl, hem, hen⟩ | ⟨q111, m113, n114, m115, n116, hcq111, hf, hem, hen⟩
          · refine kcx_v (vx_runS (As := [.int 1]) (rest := []) ⟨hx, hb, hml, hown, hts⟩ (mX5_demandState l hst D dA ad82 q96.2 _ x mi 1 (.inl e112) m113 n114 hcq111) (va_cwS 1 hts gX5_82 rfl rfl rfl (by decide +kernel) ⟨Nat.le_of_ble_eq_true rfl, Nat.le_of_ble_eq_true rfl⟩) (preSA_of hA hR hS hK hX hLX _) rfl rfl hl.1 rfl (lv_room (Nat.le_of_ble_eq_true rfl)) dX5_bring_105 ⟨nleq hm hem, nleq hn hen⟩) hA hR hS (fun k σ' ad' H1 locs1 E ce q9 eo hEk hka hLX hR hS h1 h2 h3 => ?_) (fun _ _ _ _ eo => nomatch eo)
            cases eo
            exact passx hC hE hEk (KA_tr hKA hka (by decide)) hLX hR hS h1 h2 h3 (nleq hm hem) (nleq hn hen)
          refine kcx_vR (q := q111) (vx_runS (As := [.int 1]) (rest := []) ⟨hx, hb, hml, hown, hts⟩ (mX5_demandState l hst D dA ad82 q96.2 _ x mi 1 (.inr q111) m113 n114 hcq111) (va_cwS 1 hts gX5_82 rfl rfl rfl (by decide +kernel) ⟨Nat.le_of_ble_eq_true rfl, Nat.le_of_ble_eq_true rfl⟩) (preSA_of hA hR hS hK hX hLX _) rfl rfl hl.1 rfl (lv_room (Nat.le_of_ble_eq_true rfl)) dX5_bring_105 ⟨nle hm hem, nle hn hen⟩) hA hR hS (fun ad117 H locs hka hLX hR hS => ?_)
          have e118 := (hka 2 a1.toNatClampNeg (vin_lt g25) (by decide)).1
          have e119 := (hka 0 0 rfl (by decide)).1
          have hl : lv_has ls 7 [(6, .int x28), (5, .int x27), (4, .ref (ad117 2 a1.toNatClampNeg)), (0, .ref (ad117 0 0)), (1, .int a1), (2, .int a2), (3, .int a3)] := by rw [e118, e119]; exact hl
          have hKA := KA_tr hKA hka (by decide)
          have hm := nadd hm hem
          have hn := nadd hn hen
          refine lv_aload hx hb dX5_bring_108 (lv_at hl 2 rfl) ?_
          refine va_getN (D := D) (ci := 1) (C := RX0) (T := TX0) (N := 8) hx hb hts iuX0 hown hK.1 (WW_one hR (f := 2) (i := a1.toNatClampNeg) (vin_lt g25)) 0 rfl rfl 5 (by decide) (nw_f hK.2 q_109) (fun _ h9 => h9) rfl dX5_bring_110 ?_
          refine lv_iload_n hx hb dX5_bring_113 rfl (lv_at hl 5 rfl) ?_
          refine lv_iload hx hb dX5_bring_114 (lv_at hl 0 rfl) ?_
          obtain ⟨g120, hf⟩ := gd_of hf
          refine ww_iast hx hb hK.1 hR hS 0 (f := 3) (j := a1.toNatClampNeg) (vin_lt g25) rfl rfl g120 dX5_bring_116 (fun H locs hR hS => ?_)
          have hR := HC_row3 a1.toNatClampNeg (a2.toNatClampNeg) x28 hR
          have hKA := KA_same (b := pI q111 3 a1.toNatClampNeg a2.toNatClampNeg x28) hKA ⟨rfl, rfl, rfl, rfl, rfl, rfl, rfl⟩
          have hLX := LX_same (b := pI q111 3 a1.toNatClampNeg a2.toNatClampNeg x28) hLX ⟨rfl, rfl, rfl, rfl, rfl, rfl, rfl⟩
          refine lv_iload hx hb dX5_bring_117 (lv_at hl 0 rfl) ?_
          cases hf
          exact retx_i hC hKA hLX hR hS (nfin hm) (nfin hn) dX5_bring_119
    · have hf := if_of_neg hf c75
      refine lv_iload hx hb dX5_bring_54 (lv_at hl 0 rfl) ?_
      refine lv_sipush (v := 1000) hx hb dX5_bring_56 (by decide) ?_
      refine lv_icmp_gt (tgt := 66) hx hb dX5_bring_59 (by decide) (fun c121 => ?_) (fun c121 => ?_)
      · have hf := if_of_pos hf c121
        refine lv_iconst (v := 0) hx hb dX5_bring_66 (by decide) ?_
        rcases xb_of hf with ⟨e123, m124, n125, hcq122, rfl, hem, hen⟩ | ⟨q122, m124, n125, m126, n127, hcq122, hf, hem, hen⟩
        · refine kcx_v (vx_runS (As := [.int 0]) (rest := []) ⟨hx, hb, hml, hown, hts⟩ (mX5_demandState l hst D dA ad23 q17 _ x mi 0 (.inl e123) m124 n125 hcq122) (va_cwS 1 hts gX5_82 rfl rfl rfl (by decide +kernel) ⟨Nat.le_of_ble_eq_true rfl, Nat.le_of_ble_eq_true rfl⟩) (preSA_of hA hR hS hK hX hLX _) rfl rfl hl.1 rfl (lv_room (Nat.le_of_ble_eq_true rfl)) dX5_bring_67 ⟨nleq hm hem, nleq hn hen⟩) hA hR hS (fun k σ' ad' H1 locs1 E ce q9 eo hEk hka hLX hR hS h1 h2 h3 => ?_) (fun _ _ _ _ eo => nomatch eo)
          cases eo
          exact passx hC hE hEk (KA_tr hKA hka (by decide)) hLX hR hS h1 h2 h3 (nleq hm hem) (nleq hn hen)
        refine kcx_vR (q := q122) (vx_runS (As := [.int 0]) (rest := []) ⟨hx, hb, hml, hown, hts⟩ (mX5_demandState l hst D dA ad23 q17 _ x mi 0 (.inr q122) m124 n125 hcq122) (va_cwS 1 hts gX5_82 rfl rfl rfl (by decide +kernel) ⟨Nat.le_of_ble_eq_true rfl, Nat.le_of_ble_eq_true rfl⟩) (preSA_of hA hR hS hK hX hLX _) rfl rfl hl.1 rfl (lv_room (Nat.le_of_ble_eq_true rfl)) dX5_bring_67 ⟨nle hm hem, nle hn hen⟩) hA hR hS (fun ad128 H locs hka hLX hR hS => ?_)
        have e129 := (hka 2 a1.toNatClampNeg (vin_lt g25) (by decide)).1
        have e130 := (hka 0 0 rfl (by decide)).1
        have hl : lv_has ls 7 [(6, .int x28), (5, .int x27), (4, .ref (ad128 2 a1.toNatClampNeg)), (0, .ref (ad128 0 0)), (1, .int a1), (2, .int a2), (3, .int a3)] := by rw [e129, e130]; exact hl
        have hKA := KA_tr hKA hka (by decide)
        have hm := nadd hm hem
        have hn := nadd hn hen
        refine lv_iload_n hx hb dX5_bring_70 rfl (lv_at hl 6 rfl) ?_
        refine lv_if_ge (tgt := 100) hx hb dX5_bring_71 (by decide) (fun c131 => ?_) (fun c131 => ?_)
        · have hf := if_of_pos hf c131
          refine lv_iconst (v := 1) hx hb dX5_bring_100 (by decide) ?_
          refine lv_goto (tgt := 105) hx hb dX5_bring_101 (by decide) ?_
          rcases xb_of hf with ⟨e133, m134, n135, hcq132, rfl, hem, hen⟩ | ⟨q132, m134, n135, m136, n137, hcq132, hf, hem, hen⟩
          · refine kcx_v (vx_runS (As := [.int 1]) (rest := []) ⟨hx, hb, hml, hown, hts⟩ (mX5_demandState l hst D dA ad128 q122 _ x mi 1 (.inl e133) m134 n135 hcq132) (va_cwS 1 hts gX5_82 rfl rfl rfl (by decide +kernel) ⟨Nat.le_of_ble_eq_true rfl, Nat.le_of_ble_eq_true rfl⟩) (preSA_of hA hR hS hK hX hLX _) rfl rfl hl.1 rfl (lv_room (Nat.le_of_ble_eq_true rfl)) dX5_bring_105 ⟨nleq hm hem, nleq hn hen⟩) hA hR hS (fun k σ' ad' H1 locs1 E ce q9 eo hEk hka hLX hR hS h1 h2 h3 => ?_) (fun _ _ _ _ eo => nomatch eo)
            cases eo
            exact passx hC hE hEk (KA_tr hKA hka (by decide)) hLX hR hS h1 h2 h3 (nleq hm hem) (nleq hn hen)
          refine kcx_vR (q := q132) (vx_runS (As := [.int 1]) (rest := []) ⟨hx, hb, hml, hown, hts⟩ (mX5_demandState l hst D dA ad128 q122 _ x mi 1 (.inr q132) m134 n135 hcq132) (va_cwS 1 hts gX5_82 rfl rfl rfl (by decide +kernel) ⟨Nat.le_of_ble_eq_true rfl, Nat.le_of_ble_eq_true rfl⟩) (preSA_of hA hR hS hK hX hLX _) rfl rfl hl.1 rfl (lv_room (Nat.le_of_ble_eq_true rfl)) dX5_bring_105 ⟨nle hm hem, nle hn hen⟩) hA hR hS (fun ad138 H locs hka hLX hR hS => ?_)
          have e139 := (hka 2 a1.toNatClampNeg (vin_lt g25) (by decide)).1
          have e140 := (hka 0 0 rfl (by decide)).1
          have hl : lv_has ls 7 [(6, .int x28), (5, .int x27), (4, .ref (ad138 2 a1.toNatClampNeg)), (0, .ref (ad138 0 0)), (1, .int a1), (2, .int a2), (3, .int a3)] := by rw [e139, e140]; exact hl
          have hKA := KA_tr hKA hka (by decide)
          have hm := nadd hm hem
          have hn := nadd hn hen
          refine lv_aload hx hb dX5_bring_108 (lv_at hl 2 rfl) ?_
          refine va_getN (D := D) (ci := 1) (C := RX0) (T := TX0) (N := 8) hx hb hts iuX0 hown hK.1 (WW_one hR (f := 2) (i := a1.toNatClampNeg) (vin_lt g25)) 0 rfl rfl 5 (by decide) (nw_f hK.2 q_109) (fun _ h9 => h9) rfl dX5_bring_110 ?_
          refine lv_iload_n hx hb dX5_bring_113 rfl (lv_at hl 5 rfl) ?_
          refine lv_iload hx hb dX5_bring_114 (lv_at hl 0 rfl) ?_
          obtain ⟨g141, hf⟩ := gd_of hf
          refine ww_iast hx hb hK.1 hR hS 0 (f := 3) (j := a1.toNatClampNeg) (vin_lt g25) rfl rfl g141 dX5_bring_116 (fun H locs hR hS => ?_)
          have hR := HC_row3 a1.toNatClampNeg (a2.toNatClampNeg) x28 hR
          have hKA := KA_same (b := pI q132 3 a1.toNatClampNeg a2.toNatClampNeg x28) hKA ⟨rfl, rfl, rfl, rfl, rfl, rfl, rfl⟩
          have hLX := LX_same (b := pI q132 3 a1.toNatClampNeg a2.toNatClampNeg x28) hLX ⟨rfl, rfl, rfl, rfl, rfl, rfl, rfl⟩
          refine lv_iload hx hb dX5_bring_117 (lv_at hl 0 rfl) ?_
          cases hf
          exact retx_i hC hKA hLX hR hS (nfin hm) (nfin hn) dX5_bring_119
        · have hf := if_of_neg hf c131
          refine lv_aload_n hx hb dX5_bring_74 rfl (lv_at hl 3 rfl) ?_
          refine lv_iload_n hx hb dX5_bring_75 rfl (lv_at hl 4 rfl) ?_
          obtain ⟨q142, hcq142, hf⟩ := bd_of hf
          obtain ⟨g143, hf⟩ := gd_of hf
          refine kc_l (va_runV (As := [.int a1]) (rest := []) ⟨hx, hb, hml, hown, hts⟩ (mX5_freeOf l D dA ad128 q122 _ a1 q142.1 q142.2 hcq142) (cwV 1 hts gX5_86 rfl rfl rfl (by decide +kernel) ⟨Nat.le_of_ble_eq_true rfl, Nat.le_of_ble_eq_true rfl⟩) (preV_of hR hK (f := 0) (i := 0) rfl rfl rfl _) rfl rfl hl.1 rfl (lv_room (Nat.le_of_ble_eq_true rfl)) dX5_bring_76 ⟨nle0 hm, nle0 hn⟩) hA hR hS (fun H locs hR hS => ?_)
          have hKA := KA_same hKA g143
          have hLX := LX_same hLX g143
          refine lv_aload_n hx hb dX5_bring_79 rfl (lv_at hl 3 rfl) ?_
          refine lv_iload_n hx hb dX5_bring_80 rfl (lv_at hl 5 rfl) ?_
          refine lv_iload hx hb dX5_bring_81 (lv_at hl 1 rfl) ?_
          obtain ⟨q144, hcq144, hf⟩ := bd_of hf
          refine kc_l (va_runV (As := [.int a2, .int x27]) (rest := [.long q142.1]) ⟨hx, hb, hml, hown, hts⟩ (mX5_worthOf l D dA ad128 q142.2 _ a2 x27 q144 hcq144) (cwV 2 hts gX5_101 rfl rfl rfl (by decide +kernel) ⟨Nat.le_of_ble_eq_true rfl, Nat.le_of_ble_eq_true rfl⟩) (preV_of hR hK (f := 0) (i := 0) rfl rfl rfl _) rfl rfl hl.1 rfl (lv_room (Nat.le_of_ble_eq_true rfl)) dX5_bring_83 ⟨nle0 hm, nle0 hn⟩) hA hR hS (fun H locs hR hS => ?_)
          refine lv_lsub hx hb dX5_bring_86 ?_
          refine lv_aload_n hx hb dX5_bring_87 rfl (lv_at hl 3 rfl) ?_
          refine lv_iload_n hx hb dX5_bring_88 rfl (lv_at hl 5 rfl) ?_
          refine lv_iload hx hb dX5_bring_89 (lv_at hl 0 rfl) ?_
          obtain ⟨q145, hcq145, hf⟩ := bd_of hf
          refine kc_l (va_runV (As := [.int a2, .int x28]) (rest := [.long (q142.1 - q144)]) ⟨hx, hb, hml, hown, hts⟩ (mX5_worthOf l D dA ad128 q142.2 _ a2 x28 q145 hcq145) (cwV 2 hts gX5_101 rfl rfl rfl (by decide +kernel) ⟨Nat.le_of_ble_eq_true rfl, Nat.le_of_ble_eq_true rfl⟩) (preV_of hR hK (f := 0) (i := 0) rfl rfl rfl _) rfl rfl hl.1 rfl (lv_room (Nat.le_of_ble_eq_true rfl)) dX5_bring_91 ⟨nle0 hm, nle0 hn⟩) hA hR hS (fun H locs hR hS => ?_)
          refine lv_ladd hx hb dX5_bring_94 ?_
          refine lv_lconst (v := 0) hx hb dX5_bring_95 (by decide) ?_
          refine W.lcmp hx hb dX5_bring_96 ?_
          refine lv_if_lt (tgt := 104) hx hb dX5_bring_97 (by decide) (fun c1460 => ?_) (fun c1460 => ?_)
          · have c146 : ((q142.1 - q144) + q145) < 0 := (lg_cmp_lt _ _).mp c1460
            have hf := if_of_pos hf c146
            refine lv_iconst (v := 0) hx hb dX5_bring_104 (by decide) ?_
            rcases xb_of hf with ⟨e148, m149, n150, hcq147, rfl, hem, hen⟩ | ⟨q147, m149, n150, m151, n152, hcq147, hf, hem, hen⟩
            · refine kcx_v (vx_runS (As := [.int 0]) (rest := []) ⟨hx, hb, hml, hown, hts⟩ (mX5_demandState l hst D dA ad128 q142.2 _ x mi 0 (.inl e148) m149 n150 hcq147) (va_cwS 1 hts gX5_82 rfl rfl rfl (by decide +kernel) ⟨Nat.le_of_ble_eq_true rfl, Nat.le_of_ble_eq_true rfl⟩) (preSA_of hA hR hS hK hX hLX _) rfl rfl hl.1 rfl (lv_room (Nat.le_of_ble_eq_true rfl)) dX5_bring_105 ⟨nleq hm hem, nleq hn hen⟩) hA hR hS (fun k σ' ad' H1 locs1 E ce q9 eo hEk hka hLX hR hS h1 h2 h3 => ?_) (fun _ _ _ _ eo => nomatch eo)
              cases eo
              exact passx hC hE hEk (KA_tr hKA hka (by decide)) hLX hR hS h1 h2 h3 (nleq hm hem) (nleq hn hen)
            refine kcx_vR (q := q147) (vx_runS (As := [.int 0]) (rest := []) ⟨hx, hb, hml, hown, hts⟩ (mX5_demandState l hst D dA ad128 q142.2 _ x mi 0 (.inr q147) m149 n150 hcq147) (va_cwS 1 hts gX5_82 rfl rfl rfl (by decide +kernel) ⟨Nat.le_of_ble_eq_true rfl, Nat.le_of_ble_eq_true rfl⟩) (preSA_of hA hR hS hK hX hLX _) rfl rfl hl.1 rfl (lv_room (Nat.le_of_ble_eq_true rfl)) dX5_bring_105 ⟨nle hm hem, nle hn hen⟩) hA hR hS (fun ad153 H locs hka hLX hR hS => ?_)
            have e154 := (hka 2 a1.toNatClampNeg (vin_lt g25) (by decide)).1
            have e155 := (hka 0 0 rfl (by decide)).1
            have hl : lv_has ls 7 [(6, .int x28), (5, .int x27), (4, .ref (ad153 2 a1.toNatClampNeg)), (0, .ref (ad153 0 0)), (1, .int a1), (2, .int a2), (3, .int a3)] := by rw [e154, e155]; exact hl
            have hKA := KA_tr hKA hka (by decide)
            have hm := nadd hm hem
            have hn := nadd hn hen
            refine lv_aload hx hb dX5_bring_108 (lv_at hl 2 rfl) ?_
            refine va_getN (D := D) (ci := 1) (C := RX0) (T := TX0) (N := 8) hx hb hts iuX0 hown hK.1 (WW_one hR (f := 2) (i := a1.toNatClampNeg) (vin_lt g25)) 0 rfl rfl 5 (by decide) (nw_f hK.2 q_109) (fun _ h9 => h9) rfl dX5_bring_110 ?_
            refine lv_iload_n hx hb dX5_bring_113 rfl (lv_at hl 5 rfl) ?_
            refine lv_iload hx hb dX5_bring_114 (lv_at hl 0 rfl) ?_
            obtain ⟨g156, hf⟩ := gd_of hf
            refine ww_iast hx hb hK.1 hR hS 0 (f := 3) (j := a1.toNatClampNeg) (vin_lt g25) rfl rfl g156 dX5_bring_116 (fun H locs hR hS => ?_)
            have hR := HC_row3 a1.toNatClampNeg (a2.toNatClampNeg) x28 hR
            have hKA := KA_same (b := pI q147 3 a1.toNatClampNeg a2.toNatClampNeg x28) hKA ⟨rfl, rfl, rfl, rfl, rfl, rfl, rfl⟩
            have hLX := LX_same (b := pI q147 3 a1.toNatClampNeg a2.toNatClampNeg x28) hLX ⟨rfl, rfl, rfl, rfl, rfl, rfl, rfl⟩
            refine lv_iload hx hb dX5_bring_117 (lv_at hl 0 rfl) ?_
            cases hf
            exact retx_i hC hKA hLX hR hS (nfin hm) (nfin hn) dX5_bring_119
          · have c146 : ¬ (((q142.1 - q144) + q145) < 0) := fun q => c1460 ((lg_cmp_lt _ _).mpr q)
            have hf := if_of_neg hf c146
            refine lv_iconst (v := 1) hx hb dX5_bring_100 (by decide) ?_
            refine lv_goto (tgt := 105) hx hb dX5_bring_101 (by decide) ?_
            rcases xb_of hf with ⟨e158, m159, n160, hcq157, rfl, hem, hen⟩ | ⟨q157, m159, n160, m161, n162, hcq157, hf, hem, hen⟩
            · refine kcx_v (vx_runS (As := [.int 1]) (rest := []) ⟨hx, hb, hml, hown, hts⟩ (mX5_demandState l hst D dA ad128 q142.2 _ x mi 1 (.inl e158) m159 n160 hcq157) (va_cwS 1 hts gX5_82 rfl rfl rfl (by decide +kernel) ⟨Nat.le_of_ble_eq_true rfl, Nat.le_of_ble_eq_true rfl⟩) (preSA_of hA hR hS hK hX hLX _) rfl rfl hl.1 rfl (lv_room (Nat.le_of_ble_eq_true rfl)) dX5_bring_105 ⟨nleq hm hem, nleq hn hen⟩) hA hR hS (fun k σ' ad' H1 locs1 E ce q9 eo hEk hka hLX hR hS h1 h2 h3 => ?_) (fun _ _ _ _ eo => nomatch eo)
              cases eo
              exact passx hC hE hEk (KA_tr hKA hka (by decide)) hLX hR hS h1 h2 h3 (nleq hm hem) (nleq hn hen)
            refine kcx_vR (q := q157) (vx_runS (As := [.int 1]) (rest := []) ⟨hx, hb, hml, hown, hts⟩ (mX5_demandState l hst D dA ad128 q142.2 _ x mi 1 (.inr q157) m159 n160 hcq157) (va_cwS 1 hts gX5_82 rfl rfl rfl (by decide +kernel) ⟨Nat.le_of_ble_eq_true rfl, Nat.le_of_ble_eq_true rfl⟩) (preSA_of hA hR hS hK hX hLX _) rfl rfl hl.1 rfl (lv_room (Nat.le_of_ble_eq_true rfl)) dX5_bring_105 ⟨nle hm hem, nle hn hen⟩) hA hR hS (fun ad163 H locs hka hLX hR hS => ?_)
            have e164 := (hka 2 a1.toNatClampNeg (vin_lt g25) (by decide)).1
            have e165 := (hka 0 0 rfl (by decide)).1
            have hl : lv_has ls 7 [(6, .int x28), (5, .int x27), (4, .ref (ad163 2 a1.toNatClampNeg)), (0, .ref (ad163 0 0)), (1, .int a1), (2, .int a2), (3, .int a3)] := by rw [e164, e165]; exact hl
            have hKA := KA_tr hKA hka (by decide)
            have hm := nadd hm hem
            have hn := nadd hn hen
            refine lv_aload hx hb dX5_bring_108 (lv_at hl 2 rfl) ?_
            refine va_getN (D := D) (ci := 1) (C := RX0) (T := TX0) (N := 8) hx hb hts iuX0 hown hK.1 (WW_one hR (f := 2) (i := a1.toNatClampNeg) (vin_lt g25)) 0 rfl rfl 5 (by decide) (nw_f hK.2 q_109) (fun _ h9 => h9) rfl dX5_bring_110 ?_
            refine lv_iload_n hx hb dX5_bring_113 rfl (lv_at hl 5 rfl) ?_
            refine lv_iload hx hb dX5_bring_114 (lv_at hl 0 rfl) ?_
            obtain ⟨g166, hf⟩ := gd_of hf
            refine ww_iast hx hb hK.1 hR hS 0 (f := 3) (j := a1.toNatClampNeg) (vin_lt g25) rfl rfl g166 dX5_bring_116 (fun H locs hR hS => ?_)
            have hR := HC_row3 a1.toNatClampNeg (a2.toNatClampNeg) x28 hR
            have hKA := KA_same (b := pI q157 3 a1.toNatClampNeg a2.toNatClampNeg x28) hKA ⟨rfl, rfl, rfl, rfl, rfl, rfl, rfl⟩
            have hLX := LX_same (b := pI q157 3 a1.toNatClampNeg a2.toNatClampNeg x28) hLX ⟨rfl, rfl, rfl, rfl, rfl, rfl, rfl⟩
            refine lv_iload hx hb dX5_bring_117 (lv_at hl 0 rfl) ?_
            cases hf
            exact retx_i hC hKA hLX hR hS (nfin hm) (nfin hn) dX5_bring_119
      · have hf := if_of_neg hf c121
        refine lv_iconst (v := 1) hx hb dX5_bring_62 (by decide) ?_
        refine lv_goto (tgt := 67) hx hb dX5_bring_63 (by decide) ?_
        rcases xb_of hf with ⟨e168, m169, n170, hcq167, rfl, hem, hen⟩ | ⟨q167, m169, n170, m171, n172, hcq167, hf, hem, hen⟩
        · refine kcx_v (vx_runS (As := [.int 1]) (rest := []) ⟨hx, hb, hml, hown, hts⟩ (mX5_demandState l hst D dA ad23 q17 _ x mi 1 (.inl e168) m169 n170 hcq167) (va_cwS 1 hts gX5_82 rfl rfl rfl (by decide +kernel) ⟨Nat.le_of_ble_eq_true rfl, Nat.le_of_ble_eq_true rfl⟩) (preSA_of hA hR hS hK hX hLX _) rfl rfl hl.1 rfl (lv_room (Nat.le_of_ble_eq_true rfl)) dX5_bring_67 ⟨nleq hm hem, nleq hn hen⟩) hA hR hS (fun k σ' ad' H1 locs1 E ce q9 eo hEk hka hLX hR hS h1 h2 h3 => ?_) (fun _ _ _ _ eo => nomatch eo)
          cases eo
          exact passx hC hE hEk (KA_tr hKA hka (by decide)) hLX hR hS h1 h2 h3 (nleq hm hem) (nleq hn hen)
        refine kcx_vR (q := q167) (vx_runS (As := [.int 1]) (rest := []) ⟨hx, hb, hml, hown, hts⟩ (mX5_demandState l hst D dA ad23 q17 _ x mi 1 (.inr q167) m169 n170 hcq167) (va_cwS 1 hts gX5_82 rfl rfl rfl (by decide +kernel) ⟨Nat.le_of_ble_eq_true rfl, Nat.le_of_ble_eq_true rfl⟩) (preSA_of hA hR hS hK hX hLX _) rfl rfl hl.1 rfl (lv_room (Nat.le_of_ble_eq_true rfl)) dX5_bring_67 ⟨nle hm hem, nle hn hen⟩) hA hR hS (fun ad173 H locs hka hLX hR hS => ?_)
        have e174 := (hka 2 a1.toNatClampNeg (vin_lt g25) (by decide)).1
        have e175 := (hka 0 0 rfl (by decide)).1
        have hl : lv_has ls 7 [(6, .int x28), (5, .int x27), (4, .ref (ad173 2 a1.toNatClampNeg)), (0, .ref (ad173 0 0)), (1, .int a1), (2, .int a2), (3, .int a3)] := by rw [e174, e175]; exact hl
        have hKA := KA_tr hKA hka (by decide)
        have hm := nadd hm hem
        have hn := nadd hn hen
        refine lv_iload_n hx hb dX5_bring_70 rfl (lv_at hl 6 rfl) ?_
        refine lv_if_ge (tgt := 100) hx hb dX5_bring_71 (by decide) (fun c176 => ?_) (fun c176 => ?_)
        · have hf := if_of_pos hf c176
          refine lv_iconst (v := 1) hx hb dX5_bring_100 (by decide) ?_
          refine lv_goto (tgt := 105) hx hb dX5_bring_101 (by decide) ?_
          rcases xb_of hf with ⟨e178, m179, n180, hcq177, rfl, hem, hen⟩ | ⟨q177, m179, n180, m181, n182, hcq177, hf, hem, hen⟩
          · refine kcx_v (vx_runS (As := [.int 1]) (rest := []) ⟨hx, hb, hml, hown, hts⟩ (mX5_demandState l hst D dA ad173 q167 _ x mi 1 (.inl e178) m179 n180 hcq177) (va_cwS 1 hts gX5_82 rfl rfl rfl (by decide +kernel) ⟨Nat.le_of_ble_eq_true rfl, Nat.le_of_ble_eq_true rfl⟩) (preSA_of hA hR hS hK hX hLX _) rfl rfl hl.1 rfl (lv_room (Nat.le_of_ble_eq_true rfl)) dX5_bring_105 ⟨nleq hm hem, nleq hn hen⟩) hA hR hS (fun k σ' ad' H1 locs1 E ce q9 eo hEk hka hLX hR hS h1 h2 h3 => ?_) (fun _ _ _ _ eo => nomatch eo)
            cases eo
            exact passx hC hE hEk (KA_tr hKA hka (by decide)) hLX hR hS h1 h2 h3 (nleq hm hem) (nleq hn hen)
          refine kcx_vR (q := q177) (vx_runS (As := [.int 1]) (rest := []) ⟨hx, hb, hml, hown, hts⟩ (mX5_demandState l hst D dA ad173 q167 _ x mi 1 (.inr q177) m179 n180 hcq177) (va_cwS 1 hts gX5_82 rfl rfl rfl (by decide +kernel) ⟨Nat.le_of_ble_eq_true rfl, Nat.le_of_ble_eq_true rfl⟩) (preSA_of hA hR hS hK hX hLX _) rfl rfl hl.1 rfl (lv_room (Nat.le_of_ble_eq_true rfl)) dX5_bring_105 ⟨nle hm hem, nle hn hen⟩) hA hR hS (fun ad183 H locs hka hLX hR hS => ?_)
          have e184 := (hka 2 a1.toNatClampNeg (vin_lt g25) (by decide)).1
          have e185 := (hka 0 0 rfl (by decide)).1
          have hl : lv_has ls 7 [(6, .int x28), (5, .int x27), (4, .ref (ad183 2 a1.toNatClampNeg)), (0, .ref (ad183 0 0)), (1, .int a1), (2, .int a2), (3, .int a3)] := by rw [e184, e185]; exact hl
          have hKA := KA_tr hKA hka (by decide)
          have hm := nadd hm hem
          have hn := nadd hn hen
          refine lv_aload hx hb dX5_bring_108 (lv_at hl 2 rfl) ?_
          refine va_getN (D := D) (ci := 1) (C := RX0) (T := TX0) (N := 8) hx hb hts iuX0 hown hK.1 (WW_one hR (f := 2) (i := a1.toNatClampNeg) (vin_lt g25)) 0 rfl rfl 5 (by decide) (nw_f hK.2 q_109) (fun _ h9 => h9) rfl dX5_bring_110 ?_
          refine lv_iload_n hx hb dX5_bring_113 rfl (lv_at hl 5 rfl) ?_
          refine lv_iload hx hb dX5_bring_114 (lv_at hl 0 rfl) ?_
          obtain ⟨g186, hf⟩ := gd_of hf
          refine ww_iast hx hb hK.1 hR hS 0 (f := 3) (j := a1.toNatClampNeg) (vin_lt g25) rfl rfl g186 dX5_bring_116 (fun H locs hR hS => ?_)
          have hR := HC_row3 a1.toNatClampNeg (a2.toNatClampNeg) x28 hR
          have hKA := KA_same (b := pI q177 3 a1.toNatClampNeg a2.toNatClampNeg x28) hKA ⟨rfl, rfl, rfl, rfl, rfl, rfl, rfl⟩
          have hLX := LX_same (b := pI q177 3 a1.toNatClampNeg a2.toNatClampNeg x28) hLX ⟨rfl, rfl, rfl, rfl, rfl, rfl, rfl⟩
          refine lv_iload hx hb dX5_bring_117 (lv_at hl 0 rfl) ?_
          cases hf
          exact retx_i hC hKA hLX hR hS (nfin hm) (nfin hn) dX5_bring_119
        · have hf := if_of_neg hf c176
          refine lv_aload_n hx hb dX5_bring_74 rfl (lv_at hl 3 rfl) ?_
          refine lv_iload_n hx hb dX5_bring_75 rfl (lv_at hl 4 rfl) ?_
          obtain ⟨q187, hcq187, hf⟩ := bd_of hf
          obtain ⟨g188, hf⟩ := gd_of hf
          refine kc_l (va_runV (As := [.int a1]) (rest := []) ⟨hx, hb, hml, hown, hts⟩ (mX5_freeOf l D dA ad173 q167 _ a1 q187.1 q187.2 hcq187) (cwV 1 hts gX5_86 rfl rfl rfl (by decide +kernel) ⟨Nat.le_of_ble_eq_true rfl, Nat.le_of_ble_eq_true rfl⟩) (preV_of hR hK (f := 0) (i := 0) rfl rfl rfl _) rfl rfl hl.1 rfl (lv_room (Nat.le_of_ble_eq_true rfl)) dX5_bring_76 ⟨nle0 hm, nle0 hn⟩) hA hR hS (fun H locs hR hS => ?_)
          have hKA := KA_same hKA g188
          have hLX := LX_same hLX g188
          refine lv_aload_n hx hb dX5_bring_79 rfl (lv_at hl 3 rfl) ?_
          refine lv_iload_n hx hb dX5_bring_80 rfl (lv_at hl 5 rfl) ?_
          refine lv_iload hx hb dX5_bring_81 (lv_at hl 1 rfl) ?_
          obtain ⟨q189, hcq189, hf⟩ := bd_of hf
          refine kc_l (va_runV (As := [.int a2, .int x27]) (rest := [.long q187.1]) ⟨hx, hb, hml, hown, hts⟩ (mX5_worthOf l D dA ad173 q187.2 _ a2 x27 q189 hcq189) (cwV 2 hts gX5_101 rfl rfl rfl (by decide +kernel) ⟨Nat.le_of_ble_eq_true rfl, Nat.le_of_ble_eq_true rfl⟩) (preV_of hR hK (f := 0) (i := 0) rfl rfl rfl _) rfl rfl hl.1 rfl (lv_room (Nat.le_of_ble_eq_true rfl)) dX5_bring_83 ⟨nle0 hm, nle0 hn⟩) hA hR hS (fun H locs hR hS => ?_)
          refine lv_lsub hx hb dX5_bring_86 ?_
          refine lv_aload_n hx hb dX5_bring_87 rfl (lv_at hl 3 rfl) ?_
          refine lv_iload_n hx hb dX5_bring_88 rfl (lv_at hl 5 rfl) ?_
          refine lv_iload hx hb dX5_bring_89 (lv_at hl 0 rfl) ?_
          obtain ⟨q190, hcq190, hf⟩ := bd_of hf
          refine kc_l (va_runV (As := [.int a2, .int x28]) (rest := [.long (q187.1 - q189)]) ⟨hx, hb, hml, hown, hts⟩ (mX5_worthOf l D dA ad173 q187.2 _ a2 x28 q190 hcq190) (cwV 2 hts gX5_101 rfl rfl rfl (by decide +kernel) ⟨Nat.le_of_ble_eq_true rfl, Nat.le_of_ble_eq_true rfl⟩) (preV_of hR hK (f := 0) (i := 0) rfl rfl rfl _) rfl rfl hl.1 rfl (lv_room (Nat.le_of_ble_eq_true rfl)) dX5_bring_91 ⟨nle0 hm, nle0 hn⟩) hA hR hS (fun H locs hR hS => ?_)
          refine lv_ladd hx hb dX5_bring_94 ?_
          refine lv_lconst (v := 0) hx hb dX5_bring_95 (by decide) ?_
          refine W.lcmp hx hb dX5_bring_96 ?_
          refine lv_if_lt (tgt := 104) hx hb dX5_bring_97 (by decide) (fun c1910 => ?_) (fun c1910 => ?_)
          · have c191 : ((q187.1 - q189) + q190) < 0 := (lg_cmp_lt _ _).mp c1910
            have hf := if_of_pos hf c191
            refine lv_iconst (v := 0) hx hb dX5_bring_104 (by decide) ?_
            rcases xb_of hf with ⟨e193, m194, n195, hcq192, rfl, hem, hen⟩ | ⟨q192, m194, n195, m196, n197, hcq192, hf, hem, hen⟩
            · refine kcx_v (vx_runS (As := [.int 0]) (rest := []) ⟨hx, hb, hml, hown, hts⟩ (mX5_demandState l hst D dA ad173 q187.2 _ x mi 0 (.inl e193) m194 n195 hcq192) (va_cwS 1 hts gX5_82 rfl rfl rfl (by decide +kernel) ⟨Nat.le_of_ble_eq_true rfl, Nat.le_of_ble_eq_true rfl⟩) (preSA_of hA hR hS hK hX hLX _) rfl rfl hl.1 rfl (lv_room (Nat.le_of_ble_eq_true rfl)) dX5_bring_105 ⟨nleq hm hem, nleq hn hen⟩) hA hR hS (fun k σ' ad' H1 locs1 E ce q9 eo hEk hka hLX hR hS h1 h2 h3 => ?_) (fun _ _ _ _ eo => nomatch eo)
              cases eo
              exact passx hC hE hEk (KA_tr hKA hka (by decide)) hLX hR hS h1 h2 h3 (nleq hm hem) (nleq hn hen)
            refine kcx_vR (q := q192) (vx_runS (As := [.int 0]) (rest := []) ⟨hx, hb, hml, hown, hts⟩ (mX5_demandState l hst D dA ad173 q187.2 _ x mi 0 (.inr q192) m194 n195 hcq192) (va_cwS 1 hts gX5_82 rfl rfl rfl (by decide +kernel) ⟨Nat.le_of_ble_eq_true rfl, Nat.le_of_ble_eq_true rfl⟩) (preSA_of hA hR hS hK hX hLX _) rfl rfl hl.1 rfl (lv_room (Nat.le_of_ble_eq_true rfl)) dX5_bring_105 ⟨nle hm hem, nle hn hen⟩) hA hR hS (fun ad198 H locs hka hLX hR hS => ?_)
            have e199 := (hka 2 a1.toNatClampNeg (vin_lt g25) (by decide)).1
            have e200 := (hka 0 0 rfl (by decide)).1
            have hl : lv_has ls 7 [(6, .int x28), (5, .int x27), (4, .ref (ad198 2 a1.toNatClampNeg)), (0, .ref (ad198 0 0)), (1, .int a1), (2, .int a2), (3, .int a3)] := by rw [e199, e200]; exact hl
            have hKA := KA_tr hKA hka (by decide)
            have hm := nadd hm hem
            have hn := nadd hn hen
            refine lv_aload hx hb dX5_bring_108 (lv_at hl 2 rfl) ?_
            refine va_getN (D := D) (ci := 1) (C := RX0) (T := TX0) (N := 8) hx hb hts iuX0 hown hK.1 (WW_one hR (f := 2) (i := a1.toNatClampNeg) (vin_lt g25)) 0 rfl rfl 5 (by decide) (nw_f hK.2 q_109) (fun _ h9 => h9) rfl dX5_bring_110 ?_
            refine lv_iload_n hx hb dX5_bring_113 rfl (lv_at hl 5 rfl) ?_
            refine lv_iload hx hb dX5_bring_114 (lv_at hl 0 rfl) ?_
            obtain ⟨g201, hf⟩ := gd_of hf
            refine ww_iast hx hb hK.1 hR hS 0 (f := 3) (j := a1.toNatClampNeg) (vin_lt g25) rfl rfl g201 dX5_bring_116 (fun H locs hR hS => ?_)
            have hR := HC_row3 a1.toNatClampNeg (a2.toNatClampNeg) x28 hR
            have hKA := KA_same (b := pI q192 3 a1.toNatClampNeg a2.toNatClampNeg x28) hKA ⟨rfl, rfl, rfl, rfl, rfl, rfl, rfl⟩
            have hLX := LX_same (b := pI q192 3 a1.toNatClampNeg a2.toNatClampNeg x28) hLX ⟨rfl, rfl, rfl, rfl, rfl, rfl, rfl⟩
            refine lv_iload hx hb dX5_bring_117 (lv_at hl 0 rfl) ?_
            cases hf
            exact retx_i hC hKA hLX hR hS (nfin hm) (nfin hn) dX5_bring_119
          · have c191 : ¬ (((q187.1 - q189) + q190) < 0) := fun q => c1910 ((lg_cmp_lt _ _).mpr q)
            have hf := if_of_neg hf c191
            refine lv_iconst (v := 1) hx hb dX5_bring_100 (by decide) ?_
            refine lv_goto (tgt := 105) hx hb dX5_bring_101 (by decide) ?_
            rcases xb_of hf with ⟨e203, m204, n205, hcq202, rfl, hem, hen⟩ | ⟨q202, m204, n205, m206, n207, hcq202, hf, hem, hen⟩
            · refine kcx_v (vx_runS (As := [.int 1]) (rest := []) ⟨hx, hb, hml, hown, hts⟩ (mX5_demandState l hst D dA ad173 q187.2 _ x mi 1 (.inl e203) m204 n205 hcq202) (va_cwS 1 hts gX5_82 rfl rfl rfl (by decide +kernel) ⟨Nat.le_of_ble_eq_true rfl, Nat.le_of_ble_eq_true rfl⟩) (preSA_of hA hR hS hK hX hLX _) rfl rfl hl.1 rfl (lv_room (Nat.le_of_ble_eq_true rfl)) dX5_bring_105 ⟨nleq hm hem, nleq hn hen⟩) hA hR hS (fun k σ' ad' H1 locs1 E ce q9 eo hEk hka hLX hR hS h1 h2 h3 => ?_) (fun _ _ _ _ eo => nomatch eo)
              cases eo
              exact passx hC hE hEk (KA_tr hKA hka (by decide)) hLX hR hS h1 h2 h3 (nleq hm hem) (nleq hn hen)
            refine kcx_vR (q := q202) (vx_runS (As := [.int 1]) (rest := []) ⟨hx, hb, hml, hown, hts⟩ (mX5_demandState l hst D dA ad173 q187.2 _ x mi 1 (.inr q202) m204 n205 hcq202) (va_cwS 1 hts gX5_82 rfl rfl rfl (by decide +kernel) ⟨Nat.le_of_ble_eq_true rfl, Nat.le_of_ble_eq_true rfl⟩) (preSA_of hA hR hS hK hX hLX _) rfl rfl hl.1 rfl (lv_room (Nat.le_of_ble_eq_true rfl)) dX5_bring_105 ⟨nle hm hem, nle hn hen⟩) hA hR hS (fun ad208 H locs hka hLX hR hS => ?_)
            have e209 := (hka 2 a1.toNatClampNeg (vin_lt g25) (by decide)).1
            have e210 := (hka 0 0 rfl (by decide)).1
            have hl : lv_has ls 7 [(6, .int x28), (5, .int x27), (4, .ref (ad208 2 a1.toNatClampNeg)), (0, .ref (ad208 0 0)), (1, .int a1), (2, .int a2), (3, .int a3)] := by rw [e209, e210]; exact hl
            have hKA := KA_tr hKA hka (by decide)
            have hm := nadd hm hem
            have hn := nadd hn hen
            refine lv_aload hx hb dX5_bring_108 (lv_at hl 2 rfl) ?_
            refine va_getN (D := D) (ci := 1) (C := RX0) (T := TX0) (N := 8) hx hb hts iuX0 hown hK.1 (WW_one hR (f := 2) (i := a1.toNatClampNeg) (vin_lt g25)) 0 rfl rfl 5 (by decide) (nw_f hK.2 q_109) (fun _ h9 => h9) rfl dX5_bring_110 ?_
            refine lv_iload_n hx hb dX5_bring_113 rfl (lv_at hl 5 rfl) ?_
            refine lv_iload hx hb dX5_bring_114 (lv_at hl 0 rfl) ?_
            obtain ⟨g211, hf⟩ := gd_of hf
            refine ww_iast hx hb hK.1 hR hS 0 (f := 3) (j := a1.toNatClampNeg) (vin_lt g25) rfl rfl g211 dX5_bring_116 (fun H locs hR hS => ?_)
            have hR := HC_row3 a1.toNatClampNeg (a2.toNatClampNeg) x28 hR
            have hKA := KA_same (b := pI q202 3 a1.toNatClampNeg a2.toNatClampNeg x28) hKA ⟨rfl, rfl, rfl, rfl, rfl, rfl, rfl⟩
            have hLX := LX_same (b := pI q202 3 a1.toNatClampNeg a2.toNatClampNeg x28) hLX ⟨rfl, rfl, rfl, rfl, rfl, rfl, rfl⟩
            refine lv_iload hx hb dX5_bring_117 (lv_at hl 0 rfl) ?_
            cases hf
            exact retx_i hC hKA hLX hR hS (nfin hm) (nfin hn) dX5_bring_119
def fX5_contribute (σ : St) (a1 : Int32) (a2 : Int32) : Option ((XO (Int32 × St)) × Nat × Nat) := xb (fX5_demandMember σ a1) (fun q1 => xb (fX5_demandWithin q1 a2 1 100000) (fun q9 => gd (vin a1 5) (if ¬ (gI q9 0 a1.toNatClampNeg 0) = 0 then xb (fX5_demandState q9 0) (fun q19 => some (.inr (Int64.toInt32 (gL (pL q19 1 a1.toNatClampNeg 0 ((gL q19 1 a1.toNatClampNeg 0) + (Int32.toInt64 a2))) 1 a1.toNatClampNeg 0), pL q19 1 a1.toNatClampNeg 0 ((gL q19 1 a1.toNatClampNeg 0) + (Int32.toInt64 a2))), 0, 0)) else xb (fX5_demandState q9 1) (fun q28 => some (.inr (Int64.toInt32 (gL (pL q28 1 a1.toNatClampNeg 0 ((gL q28 1 a1.toNatClampNeg 0) + (Int32.toInt64 a2))) 1 a1.toNatClampNeg 0), pL q28 1 a1.toNatClampNeg 0 ((gL q28 1 a1.toNatClampNeg 0) + (Int32.toInt64 a2))), 0, 0)))))
set_option maxHeartbeats 4000000 in
set_option maxRecDepth 100000 in
theorem mX5_contribute (l : Launch) (hst : l.stackTraces = false) (D : va_G) (dA : Nat → ClassId) (ad : Nat → Nat → Nat) (σ : St) (sz x mi : Nat) (a1 : Int32) (a2 : Int32) (o : XO (Int32 × St)) (mc ms : Nat) (hf : fX5_contribute σ a1 a2 = some (o, mc, ms)) : vx_Met l yX5_contribute (WSy yX5_contribute cX5_contribute 4 (some .int)) ({ frames := 8, cells := mc, slots := ms, locals := 132 } : Room) (va_Pc [.ref (ad 0 0), .int a1, .int a2] (PreA D dA ad σ x mi sz)) (QXi o D dA [] ad σ x (WA ad (cvC σ) sz)) (XXC o D dA [] ad σ x (WA ad (cvC σ) sz)) mc ms (WA ad (cvC σ) sz) := by
  refine metx_of (by decide) (Nat.le_of_ble_eq_true rfl) ?_
  intro p e s m below meth c ls hC hE hB hl
  obtain ⟨rfl, hR, hK, hX, hLX⟩ := hB
  have hA : ∀ q : Nat, s.heap.size ≤ q → WA ad (cvC σ) s.heap.size q := fun q h => Or.inr h
  have hR := WW_fit (B := WA ad (cvC σ) s.heap.size) hR (fun f i h => WA_in h)
  have hS : va_S (WA ad (cvC σ) s.heap.size) s.heap s.heap [] := va_S.rf
  generalize WA ad (cvC σ) s.heap.size = A0 at hA hR hS hX ⊢
  have hC : CTX p s m _ meth c cX5_contribute 4 RX5 (some .int) := hC
  obtain ⟨hx, hb, hml, hown, hts, hr, hlk⟩ := id hC
  have hl : lv_has ls 4 [(0, .ref (ad 0 0)), (1, .int a1), (2, .int a2)] := hl
  have hKA : KA [] ad ad σ σ := KA_rf _ _ _
  have hm : mc = 0 + mc := (Nat.zero_add mc).symm
  have hn : ms = 0 + ms := (Nat.zero_add ms).symm
  unfold fX5_contribute at hf
  refine lv_iload_n hx hb dX5_contribute_0 rfl (lv_at hl 1 rfl) ?_
  rcases xb_of hf with ⟨e2, m3, n4, hcq1, rfl, hem, hen⟩ | ⟨q1, m3, n4, m5, n6, hcq1, hf, hem, hen⟩
  · refine kcx_v (vx_runS (As := [.int a1]) (rest := []) ⟨hx, hb, hml, hown, hts⟩ (mX5_demandMember l hst D dA ad σ _ x mi a1 (.inl e2) m3 n4 hcq1) (va_cwS 1 hts gX5_73 rfl rfl rfl (by decide +kernel) ⟨Nat.le_of_ble_eq_true rfl, Nat.le_of_ble_eq_true rfl⟩) (preSA_of hA hR hS hK hX hLX _) rfl rfl hl.1 rfl (lv_room (Nat.le_of_ble_eq_true rfl)) dX5_contribute_1 ⟨nleq hm hem, nleq hn hen⟩) hA hR hS (fun k σ' ad' H1 locs1 E ce q9 eo hEk hka hLX hR hS h1 h2 h3 => ?_) (fun _ _ _ _ eo => nomatch eo)
    cases eo
    exact passx hC hE hEk (KA_tr hKA hka (by decide)) hLX hR hS h1 h2 h3 (nleq hm hem) (nleq hn hen)
  refine kcx_vR (q := q1) (vx_runS (As := [.int a1]) (rest := []) ⟨hx, hb, hml, hown, hts⟩ (mX5_demandMember l hst D dA ad σ _ x mi a1 (.inr q1) m3 n4 hcq1) (va_cwS 1 hts gX5_73 rfl rfl rfl (by decide +kernel) ⟨Nat.le_of_ble_eq_true rfl, Nat.le_of_ble_eq_true rfl⟩) (preSA_of hA hR hS hK hX hLX _) rfl rfl hl.1 rfl (lv_room (Nat.le_of_ble_eq_true rfl)) dX5_contribute_1 ⟨nle hm hem, nle hn hen⟩) hA hR hS (fun ad7 H locs hka hLX hR hS => ?_)
  have e8 := (hka 0 0 rfl (by decide)).1
  have hl : lv_has ls 4 [(0, .ref (ad7 0 0)), (1, .int a1), (2, .int a2)] := by rw [e8]; exact hl
  have hKA := KA_tr hKA hka (by decide)
  have hm := nadd hm hem
  have hn := nadd hn hen
  refine lv_iload_n hx hb dX5_contribute_4 rfl (lv_at hl 2 rfl) ?_
  refine lv_iconst (v := 1) hx hb dX5_contribute_5 (by decide) ?_
  refine lv_ldc (v := 100000) hx hb hown (hts _ q_354) dX5_contribute_6 ?_
  rcases xb_of hf with ⟨e10, m11, n12, hcq9, rfl, hem, hen⟩ | ⟨q9, m11, n12, m13, n14, hcq9, hf, hem, hen⟩
  · refine kcx_v (vx_runS (As := [.int a2, .int 1, .int 100000]) (rest := []) ⟨hx, hb, hml, hown, hts⟩ (mX5_demandWithin l hst D dA ad7 q1 _ x mi a2 1 100000 (.inl e10) m11 n12 hcq9) (va_cwS 3 hts gX5_48 rfl rfl rfl (by decide +kernel) ⟨Nat.le_of_ble_eq_true rfl, Nat.le_of_ble_eq_true rfl⟩) (preSA_of hA hR hS hK hX hLX _) rfl rfl hl.1 rfl (lv_room (Nat.le_of_ble_eq_true rfl)) dX5_contribute_8 ⟨nleq hm hem, nleq hn hen⟩) hA hR hS (fun k σ' ad' H1 locs1 E ce q9 eo hEk hka hLX hR hS h1 h2 h3 => ?_) (fun _ _ _ _ eo => nomatch eo)
    cases eo
    exact passx hC hE hEk (KA_tr hKA hka (by decide)) hLX hR hS h1 h2 h3 (nleq hm hem) (nleq hn hen)
  refine kcx_vR (q := q9) (vx_runS (As := [.int a2, .int 1, .int 100000]) (rest := []) ⟨hx, hb, hml, hown, hts⟩ (mX5_demandWithin l hst D dA ad7 q1 _ x mi a2 1 100000 (.inr q9) m11 n12 hcq9) (va_cwS 3 hts gX5_48 rfl rfl rfl (by decide +kernel) ⟨Nat.le_of_ble_eq_true rfl, Nat.le_of_ble_eq_true rfl⟩) (preSA_of hA hR hS hK hX hLX _) rfl rfl hl.1 rfl (lv_room (Nat.le_of_ble_eq_true rfl)) dX5_contribute_8 ⟨nle hm hem, nle hn hen⟩) hA hR hS (fun ad15 H locs hka hLX hR hS => ?_)
  have e16 := (hka 0 0 rfl (by decide)).1
  have hl : lv_has ls 4 [(0, .ref (ad15 0 0)), (1, .int a1), (2, .int a2)] := by rw [e16]; exact hl
  have hKA := KA_tr hKA hka (by decide)
  have hm := nadd hm hem
  have hn := nadd hn hen
  refine lv_aload_n hx hb dX5_contribute_11 rfl (lv_at hl 0 rfl) ?_
  refine va_get (D := D) (ci := 6) (C := RX5) (T := TX5) (N := 8) hx hb hts iuX5 hown hK.1 (WW_one hR (f := 0) (i := 0) rfl) 0 rfl rfl 0 (by decide) (hts _ q_164) (fun _ h9 => h9) rfl dX5_contribute_12 ?_
  refine lv_iload_n hx hb dX5_contribute_15 rfl (lv_at hl 1 rfl) ?_
  obtain ⟨g17, hf⟩ := gd_of hf
  refine va_aldq (C := RX0) hx hb hK.1 (WW_one hR (f := 1) (i := 0) rfl) 0 3 rfl rfl g17 dX5_contribute_16 ?_
  refine lv_astore_n (lv' := [(3, .ref (ad15 2 a1.toNatClampNeg)), (0, .ref (ad15 0 0)), (1, .int a1), (2, .int a2)]) hx hb dX5_contribute_17 rfl hl (by decide) rfl (fun ls hl => ?_)
  refine lv_aload_n hx hb dX5_contribute_18 rfl (lv_at hl 0 rfl) ?_
  refine va_getN (D := D) (ci := 1) (C := RX0) (T := TX0) (N := 8) hx hb hts iuX0 hown hK.1 (WW_one hR (f := 2) (i := a1.toNatClampNeg) (vin_lt g17)) 0 rfl rfl 3 (by decide) (nw_f hK.2 q_105) (fun _ h9 => h9) rfl dX5_contribute_19 ?_
  refine lv_if_ne (tgt := 29) hx hb dX5_contribute_22 (by decide) (fun c18 => ?_) (fun c18 => ?_)
  · have hf := if_of_pos hf c18
    refine lv_iconst (v := 0) hx hb dX5_contribute_29 (by decide) ?_
    rcases xb_of hf with ⟨e20, m21, n22, hcq19, rfl, hem, hen⟩ | ⟨q19, m21, n22, m23, n24, hcq19, hf, hem, hen⟩
    · refine kcx_v (vx_runS (As := [.int 0]) (rest := []) ⟨hx, hb, hml, hown, hts⟩ (mX5_demandState l hst D dA ad15 q9 _ x mi 0 (.inl e20) m21 n22 hcq19) (va_cwS 1 hts gX5_82 rfl rfl rfl (by decide +kernel) ⟨Nat.le_of_ble_eq_true rfl, Nat.le_of_ble_eq_true rfl⟩) (preSA_of hA hR hS hK hX hLX _) rfl rfl hl.1 rfl (lv_room (Nat.le_of_ble_eq_true rfl)) dX5_contribute_30 ⟨nleq hm hem, nleq hn hen⟩) hA hR hS (fun k σ' ad' H1 locs1 E ce q9 eo hEk hka hLX hR hS h1 h2 h3 => ?_) (fun _ _ _ _ eo => nomatch eo)
      cases eo
      exact passx hC hE hEk (KA_tr hKA hka (by decide)) hLX hR hS h1 h2 h3 (nleq hm hem) (nleq hn hen)
    refine kcx_vR (q := q19) (vx_runS (As := [.int 0]) (rest := []) ⟨hx, hb, hml, hown, hts⟩ (mX5_demandState l hst D dA ad15 q9 _ x mi 0 (.inr q19) m21 n22 hcq19) (va_cwS 1 hts gX5_82 rfl rfl rfl (by decide +kernel) ⟨Nat.le_of_ble_eq_true rfl, Nat.le_of_ble_eq_true rfl⟩) (preSA_of hA hR hS hK hX hLX _) rfl rfl hl.1 rfl (lv_room (Nat.le_of_ble_eq_true rfl)) dX5_contribute_30 ⟨nle hm hem, nle hn hen⟩) hA hR hS (fun ad25 H locs hka hLX hR hS => ?_)
    have e26 := (hka 2 a1.toNatClampNeg (vin_lt g17) (by decide)).1
    have e27 := (hka 0 0 rfl (by decide)).1
    have hl : lv_has ls 4 [(3, .ref (ad25 2 a1.toNatClampNeg)), (0, .ref (ad25 0 0)), (1, .int a1), (2, .int a2)] := by rw [e26, e27]; exact hl
    have hKA := KA_tr hKA hka (by decide)
    have hm := nadd hm hem
    have hn := nadd hn hen
    refine lv_aload_n hx hb dX5_contribute_33 rfl (lv_at hl 0 rfl) ?_
    refine lv_dup hx hb dX5_contribute_34 rfl ?_
    refine va_getN (D := D) (ci := 1) (C := RX0) (T := TX0) (N := 8) hx hb hts iuX0 hown hK.1 (WW_one hR (f := 2) (i := a1.toNatClampNeg) (vin_lt g17)) 0 rfl rfl 1 (by decide) (nw_f hK.2 q_103) (fun _ h9 => h9) rfl dX5_contribute_35 ?_
    refine lv_iload_n hx hb dX5_contribute_38 rfl (lv_at hl 3 rfl) ?_
    refine lv_i2l hx hb dX5_contribute_39 rfl ?_
    refine lv_ladd hx hb dX5_contribute_40 ?_
    refine ww_putN (D := D) (ci := 1) (C := RX0) (T := TX0) (N := 8) (ty := .long) hx hb hts iuX0 tyX0 tyX0_ok nmX0 hown hK.1 hR hS (f := 2) (i := a1.toNatClampNeg) (vin_lt g17) rfl rfl 1 (by decide) (nw_f hK.2 q_103) (fun _ h9 => h9) rfl (by decide +kernel) rfl rfl (Nat.le_of_ble_eq_true rfl) dX5_contribute_41 (fun H locs hR hS => ?_)
    have hR := HC_Account_share a1.toNatClampNeg ((gL q19 1 a1.toNatClampNeg 0) + (Int32.toInt64 a2)) hR
    have hKA := KA_same (b := pL q19 1 a1.toNatClampNeg 0 ((gL q19 1 a1.toNatClampNeg 0) + (Int32.toInt64 a2))) hKA ⟨rfl, rfl, rfl, rfl, rfl, rfl, rfl⟩
    have hLX := LX_same (b := pL q19 1 a1.toNatClampNeg 0 ((gL q19 1 a1.toNatClampNeg 0) + (Int32.toInt64 a2))) hLX ⟨rfl, rfl, rfl, rfl, rfl, rfl, rfl⟩
    refine lv_aload_n hx hb dX5_contribute_44 rfl (lv_at hl 0 rfl) ?_
    refine va_getN (D := D) (ci := 1) (C := RX0) (T := TX0) (N := 8) hx hb hts iuX0 hown hK.1 (WW_one hR (f := 2) (i := a1.toNatClampNeg) (vin_lt g17)) 0 rfl rfl 1 (by decide) (nw_f hK.2 q_103) (fun _ h9 => h9) rfl dX5_contribute_45 ?_
    refine lv_l2i hx hb dX5_contribute_48 rfl ?_
    cases hf
    exact retx_i hC hKA hLX hR hS (nfin hm) (nfin hn) dX5_contribute_49
  · have hf := if_of_neg hf (fun q => q c18)
    refine lv_iconst (v := 1) hx hb dX5_contribute_25 (by decide) ?_
    refine lv_goto (tgt := 30) hx hb dX5_contribute_26 (by decide) ?_
    rcases xb_of hf with ⟨e29, m30, n31, hcq28, rfl, hem, hen⟩ | ⟨q28, m30, n31, m32, n33, hcq28, hf, hem, hen⟩
    · refine kcx_v (vx_runS (As := [.int 1]) (rest := []) ⟨hx, hb, hml, hown, hts⟩ (mX5_demandState l hst D dA ad15 q9 _ x mi 1 (.inl e29) m30 n31 hcq28) (va_cwS 1 hts gX5_82 rfl rfl rfl (by decide +kernel) ⟨Nat.le_of_ble_eq_true rfl, Nat.le_of_ble_eq_true rfl⟩) (preSA_of hA hR hS hK hX hLX _) rfl rfl hl.1 rfl (lv_room (Nat.le_of_ble_eq_true rfl)) dX5_contribute_30 ⟨nleq hm hem, nleq hn hen⟩) hA hR hS (fun k σ' ad' H1 locs1 E ce q9 eo hEk hka hLX hR hS h1 h2 h3 => ?_) (fun _ _ _ _ eo => nomatch eo)
      cases eo
      exact passx hC hE hEk (KA_tr hKA hka (by decide)) hLX hR hS h1 h2 h3 (nleq hm hem) (nleq hn hen)
    refine kcx_vR (q := q28) (vx_runS (As := [.int 1]) (rest := []) ⟨hx, hb, hml, hown, hts⟩ (mX5_demandState l hst D dA ad15 q9 _ x mi 1 (.inr q28) m30 n31 hcq28) (va_cwS 1 hts gX5_82 rfl rfl rfl (by decide +kernel) ⟨Nat.le_of_ble_eq_true rfl, Nat.le_of_ble_eq_true rfl⟩) (preSA_of hA hR hS hK hX hLX _) rfl rfl hl.1 rfl (lv_room (Nat.le_of_ble_eq_true rfl)) dX5_contribute_30 ⟨nle hm hem, nle hn hen⟩) hA hR hS (fun ad34 H locs hka hLX hR hS => ?_)
    have e35 := (hka 2 a1.toNatClampNeg (vin_lt g17) (by decide)).1
    have e36 := (hka 0 0 rfl (by decide)).1
    have hl : lv_has ls 4 [(3, .ref (ad34 2 a1.toNatClampNeg)), (0, .ref (ad34 0 0)), (1, .int a1), (2, .int a2)] := by rw [e35, e36]; exact hl
    have hKA := KA_tr hKA hka (by decide)
    have hm := nadd hm hem
    have hn := nadd hn hen
    refine lv_aload_n hx hb dX5_contribute_33 rfl (lv_at hl 0 rfl) ?_
    refine lv_dup hx hb dX5_contribute_34 rfl ?_
    refine va_getN (D := D) (ci := 1) (C := RX0) (T := TX0) (N := 8) hx hb hts iuX0 hown hK.1 (WW_one hR (f := 2) (i := a1.toNatClampNeg) (vin_lt g17)) 0 rfl rfl 1 (by decide) (nw_f hK.2 q_103) (fun _ h9 => h9) rfl dX5_contribute_35 ?_
    refine lv_iload_n hx hb dX5_contribute_38 rfl (lv_at hl 3 rfl) ?_
    refine lv_i2l hx hb dX5_contribute_39 rfl ?_
    refine lv_ladd hx hb dX5_contribute_40 ?_
    refine ww_putN (D := D) (ci := 1) (C := RX0) (T := TX0) (N := 8) (ty := .long) hx hb hts iuX0 tyX0 tyX0_ok nmX0 hown hK.1 hR hS (f := 2) (i := a1.toNatClampNeg) (vin_lt g17) rfl rfl 1 (by decide) (nw_f hK.2 q_103) (fun _ h9 => h9) rfl (by decide +kernel) rfl rfl (Nat.le_of_ble_eq_true rfl) dX5_contribute_41 (fun H locs hR hS => ?_)
    have hR := HC_Account_share a1.toNatClampNeg ((gL q28 1 a1.toNatClampNeg 0) + (Int32.toInt64 a2)) hR
    have hKA := KA_same (b := pL q28 1 a1.toNatClampNeg 0 ((gL q28 1 a1.toNatClampNeg 0) + (Int32.toInt64 a2))) hKA ⟨rfl, rfl, rfl, rfl, rfl, rfl, rfl⟩
    have hLX := LX_same (b := pL q28 1 a1.toNatClampNeg 0 ((gL q28 1 a1.toNatClampNeg 0) + (Int32.toInt64 a2))) hLX ⟨rfl, rfl, rfl, rfl, rfl, rfl, rfl⟩
    refine lv_aload_n hx hb dX5_contribute_44 rfl (lv_at hl 0 rfl) ?_
    refine va_getN (D := D) (ci := 1) (C := RX0) (T := TX0) (N := 8) hx hb hts iuX0 hown hK.1 (WW_one hR (f := 2) (i := a1.toNatClampNeg) (vin_lt g17)) 0 rfl rfl 1 (by decide) (nw_f hK.2 q_103) (fun _ h9 => h9) rfl dX5_contribute_45 ?_
    refine lv_l2i hx hb dX5_contribute_48 rfl ?_
    cases hf
    exact retx_i hC hKA hLX hR hS (nfin hm) (nfin hn) dX5_contribute_49
def fX5_place (σ : St) (a1 : Int32) (a2 : Int32) (a3 : Int32) (a4 : Int32) (a5 : Int32) : Option ((XO (Int32 × St)) × Nat × Nat) := xb (fX5_demandMember σ a1) (fun q1 => xb (fX5_demandProduct q1 a2) (fun q9 => xb (fX5_demandWithin q9 a4 1 9999) (fun q17 => xb (fX5_demandWithin q17 a5 1 100) (fun q25 => kst (nI (gN q25 0)) (fun x33 => gd (vin a1 5) (if ¬ (gI q25 0 a1.toNatClampNeg 0) = 0 then xb (fX5_demandState q25 0) (fun q36 => gd (gN q36 0 ≤ gN q36 5) (tk 1 6 (bd (fX2_init (newO q36) (gN q36 5) x33 a1 a2 a3 a4 a5) (fun q49 => gd (sameN q49 (newO q36)) (gd (gN q49 0 < gN q49 5 ∧ gN q49 0 ≤ gN q49 2 ∧ gN q49 2 ≤ 1000000 ∧ gN q36 5 = gN q49 0) (tk (amc (gN q49 0) (gN q49 2)) (ams (gN q49 0) (gN q49 2)) (bt2 (fX5_match (addL12 q49) (gN q36 5)) (fun q59 => some (.inr (x33, q59), 0, 0))))))))) else gd (vin a2 3) (if ¬ (gI q25 5 a2.toNatClampNeg 0) = 0 then xb (fX5_demandState q25 0) (fun q70 => gd (gN q70 0 ≤ gN q70 5) (tk 1 6 (bd (fX2_init (newO q70) (gN q70 5) x33 a1 a2 a3 a4 a5) (fun q83 => gd (sameN q83 (newO q70)) (gd (gN q83 0 < gN q83 5 ∧ gN q83 0 ≤ gN q83 2 ∧ gN q83 2 ≤ 1000000 ∧ gN q70 5 = gN q83 0) (tk (amc (gN q83 0) (gN q83 2)) (ams (gN q83 0) (gN q83 2)) (bt2 (fX5_match (addL12 q83) (gN q70 5)) (fun q93 => some (.inr (x33, q93), 0, 0))))))))) else if 100 ≤ x33 then xb (fX5_demandState q25 0) (fun q103 => gd (gN q103 0 ≤ gN q103 5) (tk 1 6 (bd (fX2_init (newO q103) (gN q103 5) x33 a1 a2 a3 a4 a5) (fun q116 => gd (sameN q116 (newO q103)) (gd (gN q116 0 < gN q116 5 ∧ gN q116 0 ≤ gN q116 2 ∧ gN q116 2 ≤ 1000000 ∧ gN q103 5 = gN q116 0) (tk (amc (gN q116 0) (gN q116 2)) (ams (gN q116 0) (gN q116 2)) (bt2 (fX5_match (addL12 q116) (gN q103 5)) (fun q126 => some (.inr (x33, q126), 0, 0))))))))) else xb (fX5_demandState q25 1) (fun q135 => gd (gN q135 0 ≤ gN q135 5) (tk 1 6 (bd (fX2_init (newO q135) (gN q135 5) x33 a1 a2 a3 a4 a5) (fun q148 => gd (sameN q148 (newO q135)) (gd (gN q148 0 < gN q148 5 ∧ gN q148 0 ≤ gN q148 2 ∧ gN q148 2 ≤ 1000000 ∧ gN q135 5 = gN q148 0) (tk (amc (gN q148 0) (gN q148 2)) (ams (gN q148 0) (gN q148 2)) (bt2 (fX5_match (addL12 q148) (gN q135 5)) (fun q158 => some (.inr (x33, q158), 0, 0))))))))))))))))
set_option maxHeartbeats 4000000 in
set_option maxRecDepth 100000 in
theorem mX5_place (l : Launch) (hst : l.stackTraces = false) (D : va_G) (dA : Nat → ClassId) (ad : Nat → Nat → Nat) (σ : St) (sz x mi : Nat) (a1 : Int32) (a2 : Int32) (a3 : Int32) (a4 : Int32) (a5 : Int32) (o : XO (Int32 × St)) (mc ms : Nat) (hf : fX5_place σ a1 a2 a3 a4 a5 = some (o, mc, ms)) : vx_Met l yX5_place (WSy yX5_place cX5_place 8 (some .int)) ({ frames := 10, cells := mc, slots := ms, locals := 249 } : Room) (va_Pc [.ref (ad 0 0), .int a1, .int a2, .int a3, .int a4, .int a5] (PreA D dA ad σ x mi sz)) (QXi o D dA [13, 15] ad σ x (WA ad (cvC σ) sz)) (XXC o D dA [13, 15] ad σ x (WA ad (cvC σ) sz)) mc ms (WA ad (cvC σ) sz) := by
  refine metx_of (by decide) (Nat.le_of_ble_eq_true rfl) ?_
  intro p e s m below meth c ls hC hE hB hl
  obtain ⟨rfl, hR, hK, hX, hLX⟩ := hB
  have hA : ∀ q : Nat, s.heap.size ≤ q → WA ad (cvC σ) s.heap.size q := fun q h => Or.inr h
  have hR := WW_fit (B := WA ad (cvC σ) s.heap.size) hR (fun f i h => WA_in h)
  have hS : va_S (WA ad (cvC σ) s.heap.size) s.heap s.heap [] := va_S.rf
  generalize WA ad (cvC σ) s.heap.size = A0 at hA hR hS hX ⊢
  have hC : CTX p s m _ meth c cX5_place 8 RX5 (some .int) := hC
  obtain ⟨hx, hb, hml, hown, hts, hr, hlk⟩ := id hC
  have hl : lv_has ls 8 [(0, .ref (ad 0 0)), (1, .int a1), (2, .int a2), (3, .int a3), (4, .int a4), (5, .int a5)] := hl
  have hKA : KA [13, 15] ad ad σ σ := KA_rf _ _ _
  have hm : mc = 0 + mc := (Nat.zero_add mc).symm
  have hn : ms = 0 + ms := (Nat.zero_add ms).symm
  unfold fX5_place at hf
  refine lv_iload_n hx hb dX5_place_0 rfl (lv_at hl 1 rfl) ?_
  rcases xb_of hf with ⟨e2, m3, n4, hcq1, rfl, hem, hen⟩ | ⟨q1, m3, n4, m5, n6, hcq1, hf, hem, hen⟩
  · refine kcx_v (vx_runS (As := [.int a1]) (rest := []) ⟨hx, hb, hml, hown, hts⟩ (mX5_demandMember l hst D dA ad σ _ x mi a1 (.inl e2) m3 n4 hcq1) (va_cwS 1 hts gX5_73 rfl rfl rfl (by decide +kernel) ⟨Nat.le_of_ble_eq_true rfl, Nat.le_of_ble_eq_true rfl⟩) (preSA_of hA hR hS hK hX hLX _) rfl rfl hl.1 rfl (lv_room (Nat.le_of_ble_eq_true rfl)) dX5_place_1 ⟨nleq hm hem, nleq hn hen⟩) hA hR hS (fun k σ' ad' H1 locs1 E ce q9 eo hEk hka hLX hR hS h1 h2 h3 => ?_) (fun _ _ _ _ eo => nomatch eo)
    cases eo
    exact passx hC hE hEk (KA_tr hKA hka (by decide)) hLX hR hS h1 h2 h3 (nleq hm hem) (nleq hn hen)
  refine kcx_vR (q := q1) (vx_runS (As := [.int a1]) (rest := []) ⟨hx, hb, hml, hown, hts⟩ (mX5_demandMember l hst D dA ad σ _ x mi a1 (.inr q1) m3 n4 hcq1) (va_cwS 1 hts gX5_73 rfl rfl rfl (by decide +kernel) ⟨Nat.le_of_ble_eq_true rfl, Nat.le_of_ble_eq_true rfl⟩) (preSA_of hA hR hS hK hX hLX _) rfl rfl hl.1 rfl (lv_room (Nat.le_of_ble_eq_true rfl)) dX5_place_1 ⟨nle hm hem, nle hn hen⟩) hA hR hS (fun ad7 H locs hka hLX hR hS => ?_)
  have e8 := (hka 0 0 rfl (by decide)).1
  have hl : lv_has ls 8 [(0, .ref (ad7 0 0)), (1, .int a1), (2, .int a2), (3, .int a3), (4, .int a4), (5, .int a5)] := by rw [e8]; exact hl
  have hKA := KA_tr hKA hka (by decide)
  have hm := nadd hm hem
  have hn := nadd hn hen
  refine lv_iload_n hx hb dX5_place_4 rfl (lv_at hl 2 rfl) ?_
  rcases xb_of hf with ⟨e10, m11, n12, hcq9, rfl, hem, hen⟩ | ⟨q9, m11, n12, m13, n14, hcq9, hf, hem, hen⟩
  · refine kcx_v (vx_runS (As := [.int a2]) (rest := []) ⟨hx, hb, hml, hown, hts⟩ (mX5_demandProduct l hst D dA ad7 q1 _ x mi a2 (.inl e10) m11 n12 hcq9) (va_cwS 1 hts gX5_44 rfl rfl rfl (by decide +kernel) ⟨Nat.le_of_ble_eq_true rfl, Nat.le_of_ble_eq_true rfl⟩) (preSA_of hA hR hS hK hX hLX _) rfl rfl hl.1 rfl (lv_room (Nat.le_of_ble_eq_true rfl)) dX5_place_5 ⟨nleq hm hem, nleq hn hen⟩) hA hR hS (fun k σ' ad' H1 locs1 E ce q9 eo hEk hka hLX hR hS h1 h2 h3 => ?_) (fun _ _ _ _ eo => nomatch eo)
    cases eo
    exact passx hC hE hEk (KA_tr hKA hka (by decide)) hLX hR hS h1 h2 h3 (nleq hm hem) (nleq hn hen)
  refine kcx_vR (q := q9) (vx_runS (As := [.int a2]) (rest := []) ⟨hx, hb, hml, hown, hts⟩ (mX5_demandProduct l hst D dA ad7 q1 _ x mi a2 (.inr q9) m11 n12 hcq9) (va_cwS 1 hts gX5_44 rfl rfl rfl (by decide +kernel) ⟨Nat.le_of_ble_eq_true rfl, Nat.le_of_ble_eq_true rfl⟩) (preSA_of hA hR hS hK hX hLX _) rfl rfl hl.1 rfl (lv_room (Nat.le_of_ble_eq_true rfl)) dX5_place_5 ⟨nle hm hem, nle hn hen⟩) hA hR hS (fun ad15 H locs hka hLX hR hS => ?_)
  have e16 := (hka 0 0 rfl (by decide)).1
  have hl : lv_has ls 8 [(0, .ref (ad15 0 0)), (1, .int a1), (2, .int a2), (3, .int a3), (4, .int a4), (5, .int a5)] := by rw [e16]; exact hl
  have hKA := KA_tr hKA hka (by decide)
  have hm := nadd hm hem
  have hn := nadd hn hen
  refine lv_iload hx hb dX5_place_8 (lv_at hl 4 rfl) ?_
  refine lv_iconst (v := 1) hx hb dX5_place_10 (by decide) ?_
  refine lv_sipush (v := 9999) hx hb dX5_place_11 (by decide) ?_
  rcases xb_of hf with ⟨e18, m19, n20, hcq17, rfl, hem, hen⟩ | ⟨q17, m19, n20, m21, n22, hcq17, hf, hem, hen⟩
  · refine kcx_v (vx_runS (As := [.int a4, .int 1, .int 9999]) (rest := []) ⟨hx, hb, hml, hown, hts⟩ (mX5_demandWithin l hst D dA ad15 q9 _ x mi a4 1 9999 (.inl e18) m19 n20 hcq17) (va_cwS 3 hts gX5_48 rfl rfl rfl (by decide +kernel) ⟨Nat.le_of_ble_eq_true rfl, Nat.le_of_ble_eq_true rfl⟩) (preSA_of hA hR hS hK hX hLX _) rfl rfl hl.1 rfl (lv_room (Nat.le_of_ble_eq_true rfl)) dX5_place_14 ⟨nleq hm hem, nleq hn hen⟩) hA hR hS (fun k σ' ad' H1 locs1 E ce q9 eo hEk hka hLX hR hS h1 h2 h3 => ?_) (fun _ _ _ _ eo => nomatch eo)
    cases eo
    exact passx hC hE hEk (KA_tr hKA hka (by decide)) hLX hR hS h1 h2 h3 (nleq hm hem) (nleq hn hen)
  refine kcx_vR (q := q17) (vx_runS (As := [.int a4, .int 1, .int 9999]) (rest := []) ⟨hx, hb, hml, hown, hts⟩ (mX5_demandWithin l hst D dA ad15 q9 _ x mi a4 1 9999 (.inr q17) m19 n20 hcq17) (va_cwS 3 hts gX5_48 rfl rfl rfl (by decide +kernel) ⟨Nat.le_of_ble_eq_true rfl, Nat.le_of_ble_eq_true rfl⟩) (preSA_of hA hR hS hK hX hLX _) rfl rfl hl.1 rfl (lv_room (Nat.le_of_ble_eq_true rfl)) dX5_place_14 ⟨nle hm hem, nle hn hen⟩) hA hR hS (fun ad23 H locs hka hLX hR hS => ?_)
  have e24 := (hka 0 0 rfl (by decide)).1
  have hl : lv_has ls 8 [(0, .ref (ad23 0 0)), (1, .int a1), (2, .int a2), (3, .int a3), (4, .int a4), (5, .int a5)] := by rw [e24]; exact hl
  have hKA := KA_tr hKA hka (by decide)
  have hm := nadd hm hem
  have hn := nadd hn hen
  refine lv_iload hx hb dX5_place_17 (lv_at hl 5 rfl) ?_
  refine lv_iconst (v := 1) hx hb dX5_place_19 (by decide) ?_
  refine lv_bipush (v := 100) hx hb dX5_place_20 (by decide) ?_
  rcases xb_of hf with ⟨e26, m27, n28, hcq25, rfl, hem, hen⟩ | ⟨q25, m27, n28, m29, n30, hcq25, hf, hem, hen⟩
  · refine kcx_v (vx_runS (As := [.int a5, .int 1, .int 100]) (rest := []) ⟨hx, hb, hml, hown, hts⟩ (mX5_demandWithin l hst D dA ad23 q17 _ x mi a5 1 100 (.inl e26) m27 n28 hcq25) (va_cwS 3 hts gX5_48 rfl rfl rfl (by decide +kernel) ⟨Nat.le_of_ble_eq_true rfl, Nat.le_of_ble_eq_true rfl⟩) (preSA_of hA hR hS hK hX hLX _) rfl rfl hl.1 rfl (lv_room (Nat.le_of_ble_eq_true rfl)) dX5_place_22 ⟨nleq hm hem, nleq hn hen⟩) hA hR hS (fun k σ' ad' H1 locs1 E ce q9 eo hEk hka hLX hR hS h1 h2 h3 => ?_) (fun _ _ _ _ eo => nomatch eo)
    cases eo
    exact passx hC hE hEk (KA_tr hKA hka (by decide)) hLX hR hS h1 h2 h3 (nleq hm hem) (nleq hn hen)
  refine kcx_vR (q := q25) (vx_runS (As := [.int a5, .int 1, .int 100]) (rest := []) ⟨hx, hb, hml, hown, hts⟩ (mX5_demandWithin l hst D dA ad23 q17 _ x mi a5 1 100 (.inr q25) m27 n28 hcq25) (va_cwS 3 hts gX5_48 rfl rfl rfl (by decide +kernel) ⟨Nat.le_of_ble_eq_true rfl, Nat.le_of_ble_eq_true rfl⟩) (preSA_of hA hR hS hK hX hLX _) rfl rfl hl.1 rfl (lv_room (Nat.le_of_ble_eq_true rfl)) dX5_place_22 ⟨nle hm hem, nle hn hen⟩) hA hR hS (fun ad31 H locs hka hLX hR hS => ?_)
  have e32 := (hka 0 0 rfl (by decide)).1
  have hl : lv_has ls 8 [(0, .ref (ad31 0 0)), (1, .int a1), (2, .int a2), (3, .int a3), (4, .int a4), (5, .int a5)] := by rw [e32]; exact hl
  have hKA := KA_tr hKA hka (by decide)
  have hm := nadd hm hem
  have hn := nadd hn hen
  refine lv_aload_n hx hb dX5_place_25 rfl (lv_at hl 0 rfl) ?_
  refine va_get (D := D) (ci := 6) (C := RX5) (T := TX5) (N := 8) hx hb hts iuX5 hown hK.1 (WW_one hR (f := 0) (i := 0) rfl) 0 rfl rfl 3 (by decide) (hts _ q_167) (fun _ h9 => h9) rfl dX5_place_26 ?_
  refine ls_size12 (rest := []) hC hK hA hR hS hl q_197 ⟨Nat.le_of_ble_eq_true rfl, Nat.le_of_ble_eq_true rfl⟩ (lv_room (Nat.le_of_ble_eq_true rfl)) ⟨nle0 hm, nle0 hn⟩ dX5_place_29 (fun H locs hR hS => ?_)
  refine lv_topi (fun x33 hx33 => ?_)
  have hf := kst_eq hx33 hf
  refine lv_istore (lv' := [(6, .int x33), (0, .ref (ad31 0 0)), (1, .int a1), (2, .int a2), (3, .int a3), (4, .int a4), (5, .int a5)]) hx hb dX5_place_32 hl (by decide) rfl (fun ls hl => ?_)
  refine lv_aload_n hx hb dX5_place_34 rfl (lv_at hl 1 rfl) ?_
  refine va_get (D := D) (ci := 6) (C := RX5) (T := TX5) (N := 8) hx hb hts iuX5 hown hK.1 (WW_one hR (f := 0) (i := 0) rfl) 0 rfl rfl 0 (by decide) (hts _ q_164) (fun _ h9 => h9) rfl dX5_place_35 ?_
  refine lv_iload_n hx hb dX5_place_38 rfl (lv_at hl 2 rfl) ?_
  obtain ⟨g34, hf⟩ := gd_of hf
  refine va_aldq (C := RX0) hx hb hK.1 (WW_one hR (f := 1) (i := 0) rfl) 0 3 rfl rfl g34 dX5_place_39 ?_
  refine va_getN (D := D) (ci := 1) (C := RX0) (T := TX0) (N := 8) hx hb hts iuX0 hown hK.1 (WW_one hR (f := 2) (i := a1.toNatClampNeg) (vin_lt g34)) 0 rfl rfl 3 (by decide) (nw_f hK.2 q_105) (fun _ h9 => h9) rfl dX5_place_40 ?_
  refine lv_if_ne (tgt := 69) hx hb dX5_place_43 (by decide) (fun c35 => ?_) (fun c35 => ?_)
  · have hf := if_of_pos hf c35
    refine lv_iconst (v := 0) hx hb dX5_place_69 (by decide) ?_
    rcases xb_of hf with ⟨e37, m38, n39, hcq36, rfl, hem, hen⟩ | ⟨q36, m38, n39, m40, n41, hcq36, hf, hem, hen⟩
    · refine kcx_v (vx_runS (As := [.int 0]) (rest := []) ⟨hx, hb, hml, hown, hts⟩ (mX5_demandState l hst D dA ad31 q25 _ x mi 0 (.inl e37) m38 n39 hcq36) (va_cwS 1 hts gX5_82 rfl rfl rfl (by decide +kernel) ⟨Nat.le_of_ble_eq_true rfl, Nat.le_of_ble_eq_true rfl⟩) (preSA_of hA hR hS hK hX hLX _) rfl rfl hl.1 rfl (lv_room (Nat.le_of_ble_eq_true rfl)) dX5_place_70 ⟨nleq hm hem, nleq hn hen⟩) hA hR hS (fun k σ' ad' H1 locs1 E ce q9 eo hEk hka hLX hR hS h1 h2 h3 => ?_) (fun _ _ _ _ eo => nomatch eo)
      cases eo
      exact passx hC hE hEk (KA_tr hKA hka (by decide)) hLX hR hS h1 h2 h3 (nleq hm hem) (nleq hn hen)
    refine kcx_vR (q := q36) (vx_runS (As := [.int 0]) (rest := []) ⟨hx, hb, hml, hown, hts⟩ (mX5_demandState l hst D dA ad31 q25 _ x mi 0 (.inr q36) m38 n39 hcq36) (va_cwS 1 hts gX5_82 rfl rfl rfl (by decide +kernel) ⟨Nat.le_of_ble_eq_true rfl, Nat.le_of_ble_eq_true rfl⟩) (preSA_of hA hR hS hK hX hLX _) rfl rfl hl.1 rfl (lv_room (Nat.le_of_ble_eq_true rfl)) dX5_place_70 ⟨nle hm hem, nle hn hen⟩) hA hR hS (fun ad42 H locs hka hLX hR hS => ?_)
    have e43 := (hka 0 0 rfl (by decide)).1
    have hl : lv_has ls 8 [(6, .int x33), (0, .ref (ad42 0 0)), (1, .int a1), (2, .int a2), (3, .int a3), (4, .int a4), (5, .int a5)] := by rw [e43]; exact hl
    have hKA := KA_tr hKA hka (by decide)
    have hm := nadd hm hem
    have hn := nadd hn hen
    obtain ⟨g44, hf⟩ := gd_of hf
    obtain ⟨m45, n46, hf, hem, hen⟩ := tk_of hf
    refine new_17 hC hK hA hR hS hLX g44 q_279 (nle hm hem) (nle hn hen) dX5_place_73 (fun ad47 H hka hLX hR hS => ?_)
    have e48 := (hka 0 0 rfl (by decide)).1
    have hl : lv_has ls 8 [(6, .int x33), (0, .ref (ad47 0 0)), (1, .int a1), (2, .int a2), (3, .int a3), (4, .int a4), (5, .int a5)] := by rw [e48]; exact hl
    have hKA := KA_tr hKA hka (by decide)
    have hm := nadd hm hem
    have hn := nadd hn hen
    refine lv_dup hx hb dX5_place_76 rfl ?_
    refine lv_iload hx hb dX5_place_77 (lv_at hl 0 rfl) ?_
    refine lv_iload_n hx hb dX5_place_79 rfl (lv_at hl 2 rfl) ?_
    refine lv_iload_n hx hb dX5_place_80 rfl (lv_at hl 3 rfl) ?_
    refine lv_iload_n hx hb dX5_place_81 rfl (lv_at hl 4 rfl) ?_
    refine lv_iload hx hb dX5_place_82 (lv_at hl 5 rfl) ?_
    refine lv_iload hx hb dX5_place_84 (lv_at hl 6 rfl) ?_
    obtain ⟨q49, hcq49, hf⟩ := bd_of hf
    obtain ⟨g50, hf⟩ := gd_of hf
    refine kc_v (va_runIN (As := [.int x33, .int a1, .int a2, .int a3, .int a4, .int a5]) (rest := [.ref (ad47 17 (gN q36 5))]) ⟨hx, hb, hml, hown, hts⟩ (mX2_init l D dA ad47 (newO q36) _ (gN q36 5) x33 a1 a2 a3 a4 a5 q49 hcq49 (Nat.lt_succ_self _)) ⟨va_cnB 6 hts gX5_117 rfl rfl rfl (hK.2 _ q_421) (hts _ q_51) (by decide +kernel) ⟨Nat.le_of_ble_eq_true rfl, Nat.le_of_ble_eq_true rfl⟩, rfl, hts _ q_422⟩ (preS_of hR hK _) rfl rfl hl.1 rfl (lv_room (Nat.le_of_ble_eq_true rfl)) dX5_place_86 ⟨nle0 hm, nle0 hn⟩) hA hR hS (fun H locs hR hS => ?_)
    have hKA := KA_same hKA g50
    have hLX := LX_same hLX g50
    have w51 : cvC q49 17 (gN q36 5) := by rw [cvC_same g50]; exact (Nat.lt_succ_self _)
    refine lv_astore (lv' := [(7, .ref (ad47 17 (gN q36 5))), (6, .int x33), (0, .ref (ad47 0 0)), (1, .int a1), (2, .int a2), (3, .int a3), (4, .int a4), (5, .int a5)]) hx hb dX5_place_89 hl (by decide) rfl (fun ls hl => ?_)
    refine lv_aload_n hx hb dX5_place_91 rfl (lv_at hl 2 rfl) ?_
    refine va_get (D := D) (ci := 6) (C := RX5) (T := TX5) (N := 8) hx hb hts iuX5 hown hK.1 (WW_one hR (f := 0) (i := 0) rfl) 0 rfl rfl 3 (by decide) (hts _ q_167) (fun _ h9 => h9) rfl dX5_place_92 ?_
    refine lv_aload hx hb dX5_place_95 (lv_at hl 0 rfl) ?_
    obtain ⟨g52, hf⟩ := gd_of hf
    obtain ⟨m53, n54, hf, hem, hen⟩ := tk_of hf
    refine W.eq (g2 := F0 m 97 ls (.ref (ad47 17 (gN q49 0)) :: .ref (ad47 12 0) :: [])) (by rw [← g52.2.2.2]) ?_
    refine addw_12 (rest := []) hC hK hA hR hS hX hLX g52.1 g52.2.1 g52.2.2.1 hl q_450 ⟨Nat.le_of_ble_eq_true rfl, Nat.le_of_ble_eq_true rfl⟩ (lv_room (Nat.le_of_ble_eq_true rfl)) ⟨nle hm hem, nle hn hen⟩ dX5_place_97 (fun ad55 H locs hka hLX hR hS => ?_)
    have e56 := (hka 17 (gN q36 5) w51 (by decide)).1
    have w57 := (hka 17 (gN q36 5) w51 (by decide)).2
    have e58 := (hka 0 0 rfl (by decide)).1
    have hl : lv_has ls 8 [(7, .ref (ad55 17 (gN q36 5))), (6, .int x33), (0, .ref (ad55 0 0)), (1, .int a1), (2, .int a2), (3, .int a3), (4, .int a4), (5, .int a5)] := by rw [e56, e58]; exact hl
    have hKA := KA_tr hKA hka (by decide)
    have hm := nadd hm hem
    have hn := nadd hn hen
    refine lv_pop hx hb dX5_place_100 rfl ?_
    refine lv_aload_n hx hb dX5_place_101 rfl (lv_at hl 2 rfl) ?_
    refine lv_aload hx hb dX5_place_102 (lv_at hl 0 rfl) ?_
    obtain ⟨q59, m60, n61, m62, n63, hcq59, hf, hem, hen⟩ := bt2_of hf
    refine kca_v (va_runV (As := [.ref (ad55 17 (gN q36 5))]) (rest := []) ⟨hx, hb, hml, hown, hts⟩ (mX5_match l D dA ad55 (addL12 q49) _ x mi (gN q36 5) q59 m60 n61 hcq59 w57) (cwV 1 hts gX5_124 rfl rfl rfl (by decide +kernel) ⟨Nat.le_of_ble_eq_true rfl, Nat.le_of_ble_eq_true rfl⟩) (preVA_of hA hR hS hK hX hLX _) rfl rfl hl.1 rfl (lv_room (Nat.le_of_ble_eq_true rfl)) dX5_place_104 ⟨nle hm hem, nle hn hen⟩) hA hR hS (fun ad64 H locs hka hLX hR hS => ?_)
    have e65 := (hka 17 (gN q36 5) w57 (by decide)).1
    have w66 := (hka 17 (gN q36 5) w57 (by decide)).2
    have e67 := (hka 0 0 rfl (by decide)).1
    have hl : lv_has ls 8 [(7, .ref (ad64 17 (gN q36 5))), (6, .int x33), (0, .ref (ad64 0 0)), (1, .int a1), (2, .int a2), (3, .int a3), (4, .int a4), (5, .int a5)] := by rw [e65, e67]; exact hl
    have hKA := KA_tr hKA hka (by decide)
    have hm := nadd hm hem
    have hn := nadd hn hen
    refine lv_iload hx hb dX5_place_107 (lv_at hl 1 rfl) ?_
    cases hf
    exact retx_i hC hKA hLX hR hS (nfin hm) (nfin hn) dX5_place_109
  · have hf := if_of_neg hf (fun q => q c35)
    refine lv_aload_n hx hb dX5_place_46 rfl (lv_at hl 1 rfl) ?_
    refine va_get (D := D) (ci := 6) (C := RX5) (T := TX5) (N := 8) hx hb hts iuX5 hown hK.1 (WW_one hR (f := 0) (i := 0) rfl) 0 rfl rfl 1 (by decide) (hts _ q_165) (fun _ h9 => h9) rfl dX5_place_47 ?_
    refine lv_iload_n hx hb dX5_place_50 rfl (lv_at hl 3 rfl) ?_
    obtain ⟨g68, hf⟩ := gd_of hf
    refine va_aldq (C := RX3) hx hb hK.1 (WW_one hR (f := 6) (i := 0) rfl) 0 4 rfl rfl g68 dX5_place_51 ?_
    refine va_getN (D := D) (ci := 4) (C := RX3) (T := TX3) (N := 3) hx hb hts iuX3 hown hK.1 (WW_one hR (f := 7) (i := a2.toNatClampNeg) (vin_lt g68)) 0 rfl rfl 1 (by decide) (nw_f hK.2 q_140) (fun _ h9 => h9) rfl dX5_place_52 ?_
    refine lv_if_ne (tgt := 69) hx hb dX5_place_55 (by decide) (fun c69 => ?_) (fun c69 => ?_)
    · have hf := if_of_pos hf c69
      refine lv_iconst (v := 0) hx hb dX5_place_69 (by decide) ?_
      rcases xb_of hf with ⟨e71, m72, n73, hcq70, rfl, hem, hen⟩ | ⟨q70, m72, n73, m74, n75, hcq70, hf, hem, hen⟩
      · refine kcx_v (vx_runS (As := [.int 0]) (rest := []) ⟨hx, hb, hml, hown, hts⟩ (mX5_demandState l hst D dA ad31 q25 _ x mi 0 (.inl e71) m72 n73 hcq70) (va_cwS 1 hts gX5_82 rfl rfl rfl (by decide +kernel) ⟨Nat.le_of_ble_eq_true rfl, Nat.le_of_ble_eq_true rfl⟩) (preSA_of hA hR hS hK hX hLX _) rfl rfl hl.1 rfl (lv_room (Nat.le_of_ble_eq_true rfl)) dX5_place_70 ⟨nleq hm hem, nleq hn hen⟩) hA hR hS (fun k σ' ad' H1 locs1 E ce q9 eo hEk hka hLX hR hS h1 h2 h3 => ?_) (fun _ _ _ _ eo => nomatch eo)
        cases eo
        exact passx hC hE hEk (KA_tr hKA hka (by decide)) hLX hR hS h1 h2 h3 (nleq hm hem) (nleq hn hen)
      refine kcx_vR (q := q70) (vx_runS (As := [.int 0]) (rest := []) ⟨hx, hb, hml, hown, hts⟩ (mX5_demandState l hst D dA ad31 q25 _ x mi 0 (.inr q70) m72 n73 hcq70) (va_cwS 1 hts gX5_82 rfl rfl rfl (by decide +kernel) ⟨Nat.le_of_ble_eq_true rfl, Nat.le_of_ble_eq_true rfl⟩) (preSA_of hA hR hS hK hX hLX _) rfl rfl hl.1 rfl (lv_room (Nat.le_of_ble_eq_true rfl)) dX5_place_70 ⟨nle hm hem, nle hn hen⟩) hA hR hS (fun ad76 H locs hka hLX hR hS => ?_)
      have e77 := (hka 0 0 rfl (by decide)).1
      have hl : lv_has ls 8 [(6, .int x33), (0, .ref (ad76 0 0)), (1, .int a1), (2, .int a2), (3, .int a3), (4, .int a4), (5, .int a5)] := by rw [e77]; exact hl
      have hKA := KA_tr hKA hka (by decide)
      have hm := nadd hm hem
      have hn := nadd hn hen
      obtain ⟨g78, hf⟩ := gd_of hf
      obtain ⟨m79, n80, hf, hem, hen⟩ := tk_of hf
      refine new_17 hC hK hA hR hS hLX g78 q_279 (nle hm hem) (nle hn hen) dX5_place_73 (fun ad81 H hka hLX hR hS => ?_)
      have e82 := (hka 0 0 rfl (by decide)).1
      have hl : lv_has ls 8 [(6, .int x33), (0, .ref (ad81 0 0)), (1, .int a1), (2, .int a2), (3, .int a3), (4, .int a4), (5, .int a5)] := by rw [e82]; exact hl
      have hKA := KA_tr hKA hka (by decide)
      have hm := nadd hm hem
      have hn := nadd hn hen
      refine lv_dup hx hb dX5_place_76 rfl ?_
      refine lv_iload hx hb dX5_place_77 (lv_at hl 0 rfl) ?_
      refine lv_iload_n hx hb dX5_place_79 rfl (lv_at hl 2 rfl) ?_
      refine lv_iload_n hx hb dX5_place_80 rfl (lv_at hl 3 rfl) ?_
      refine lv_iload_n hx hb dX5_place_81 rfl (lv_at hl 4 rfl) ?_
      refine lv_iload hx hb dX5_place_82 (lv_at hl 5 rfl) ?_
      refine lv_iload hx hb dX5_place_84 (lv_at hl 6 rfl) ?_
      obtain ⟨q83, hcq83, hf⟩ := bd_of hf
      obtain ⟨g84, hf⟩ := gd_of hf
      refine kc_v (va_runIN (As := [.int x33, .int a1, .int a2, .int a3, .int a4, .int a5]) (rest := [.ref (ad81 17 (gN q70 5))]) ⟨hx, hb, hml, hown, hts⟩ (mX2_init l D dA ad81 (newO q70) _ (gN q70 5) x33 a1 a2 a3 a4 a5 q83 hcq83 (Nat.lt_succ_self _)) ⟨va_cnB 6 hts gX5_117 rfl rfl rfl (hK.2 _ q_421) (hts _ q_51) (by decide +kernel) ⟨Nat.le_of_ble_eq_true rfl, Nat.le_of_ble_eq_true rfl⟩, rfl, hts _ q_422⟩ (preS_of hR hK _) rfl rfl hl.1 rfl (lv_room (Nat.le_of_ble_eq_true rfl)) dX5_place_86 ⟨nle0 hm, nle0 hn⟩) hA hR hS (fun H locs hR hS => ?_)
      have hKA := KA_same hKA g84
      have hLX := LX_same hLX g84
      have w85 : cvC q83 17 (gN q70 5) := by rw [cvC_same g84]; exact (Nat.lt_succ_self _)
      refine lv_astore (lv' := [(7, .ref (ad81 17 (gN q70 5))), (6, .int x33), (0, .ref (ad81 0 0)), (1, .int a1), (2, .int a2), (3, .int a3), (4, .int a4), (5, .int a5)]) hx hb dX5_place_89 hl (by decide) rfl (fun ls hl => ?_)
      refine lv_aload_n hx hb dX5_place_91 rfl (lv_at hl 2 rfl) ?_
      refine va_get (D := D) (ci := 6) (C := RX5) (T := TX5) (N := 8) hx hb hts iuX5 hown hK.1 (WW_one hR (f := 0) (i := 0) rfl) 0 rfl rfl 3 (by decide) (hts _ q_167) (fun _ h9 => h9) rfl dX5_place_92 ?_
      refine lv_aload hx hb dX5_place_95 (lv_at hl 0 rfl) ?_
      obtain ⟨g86, hf⟩ := gd_of hf
      obtain ⟨m87, n88, hf, hem, hen⟩ := tk_of hf
      refine W.eq (g2 := F0 m 97 ls (.ref (ad81 17 (gN q83 0)) :: .ref (ad81 12 0) :: [])) (by rw [← g86.2.2.2]) ?_
      refine addw_12 (rest := []) hC hK hA hR hS hX hLX g86.1 g86.2.1 g86.2.2.1 hl q_450 ⟨Nat.le_of_ble_eq_true rfl, Nat.le_of_ble_eq_true rfl⟩ (lv_room (Nat.le_of_ble_eq_true rfl)) ⟨nle hm hem, nle hn hen⟩ dX5_place_97 (fun ad89 H locs hka hLX hR hS => ?_)
      have e90 := (hka 17 (gN q70 5) w85 (by decide)).1
      have w91 := (hka 17 (gN q70 5) w85 (by decide)).2
      have e92 := (hka 0 0 rfl (by decide)).1
      have hl : lv_has ls 8 [(7, .ref (ad89 17 (gN q70 5))), (6, .int x33), (0, .ref (ad89 0 0)), (1, .int a1), (2, .int a2), (3, .int a3), (4, .int a4), (5, .int a5)] := by rw [e90, e92]; exact hl
      have hKA := KA_tr hKA hka (by decide)
      have hm := nadd hm hem
      have hn := nadd hn hen
      refine lv_pop hx hb dX5_place_100 rfl ?_
      refine lv_aload_n hx hb dX5_place_101 rfl (lv_at hl 2 rfl) ?_
      refine lv_aload hx hb dX5_place_102 (lv_at hl 0 rfl) ?_
      obtain ⟨q93, m94, n95, m96, n97, hcq93, hf, hem, hen⟩ := bt2_of hf
      refine kca_v (va_runV (As := [.ref (ad89 17 (gN q70 5))]) (rest := []) ⟨hx, hb, hml, hown, hts⟩ (mX5_match l D dA ad89 (addL12 q83) _ x mi (gN q70 5) q93 m94 n95 hcq93 w91) (cwV 1 hts gX5_124 rfl rfl rfl (by decide +kernel) ⟨Nat.le_of_ble_eq_true rfl, Nat.le_of_ble_eq_true rfl⟩) (preVA_of hA hR hS hK hX hLX _) rfl rfl hl.1 rfl (lv_room (Nat.le_of_ble_eq_true rfl)) dX5_place_104 ⟨nle hm hem, nle hn hen⟩) hA hR hS (fun ad98 H locs hka hLX hR hS => ?_)
      have e99 := (hka 17 (gN q70 5) w91 (by decide)).1
      have w100 := (hka 17 (gN q70 5) w91 (by decide)).2
      have e101 := (hka 0 0 rfl (by decide)).1
      have hl : lv_has ls 8 [(7, .ref (ad98 17 (gN q70 5))), (6, .int x33), (0, .ref (ad98 0 0)), (1, .int a1), (2, .int a2), (3, .int a3), (4, .int a4), (5, .int a5)] := by rw [e99, e101]; exact hl
      have hKA := KA_tr hKA hka (by decide)
      have hm := nadd hm hem
      have hn := nadd hn hen
      refine lv_iload hx hb dX5_place_107 (lv_at hl 1 rfl) ?_
      cases hf
      exact retx_i hC hKA hLX hR hS (nfin hm) (nfin hn) dX5_place_109
    · have hf := if_of_neg hf (fun q => q c69)
      refine lv_iload hx hb dX5_place_58 (lv_at hl 0 rfl) ?_
      refine lv_bipush (v := 100) hx hb dX5_place_60 (by decide) ?_
      refine lv_icmp_ge (tgt := 69) hx hb dX5_place_62 (by decide) (fun c102 => ?_) (fun c102 => ?_)
      · have hf := if_of_pos hf c102
        refine lv_iconst (v := 0) hx hb dX5_place_69 (by decide) ?_
        rcases xb_of hf with ⟨e104, m105, n106, hcq103, rfl, hem, hen⟩ | ⟨q103, m105, n106, m107, n108, hcq103, hf, hem, hen⟩
        · refine kcx_v (vx_runS (As := [.int 0]) (rest := []) ⟨hx, hb, hml, hown, hts⟩ (mX5_demandState l hst D dA ad31 q25 _ x mi 0 (.inl e104) m105 n106 hcq103) (va_cwS 1 hts gX5_82 rfl rfl rfl (by decide +kernel) ⟨Nat.le_of_ble_eq_true rfl, Nat.le_of_ble_eq_true rfl⟩) (preSA_of hA hR hS hK hX hLX _) rfl rfl hl.1 rfl (lv_room (Nat.le_of_ble_eq_true rfl)) dX5_place_70 ⟨nleq hm hem, nleq hn hen⟩) hA hR hS (fun k σ' ad' H1 locs1 E ce q9 eo hEk hka hLX hR hS h1 h2 h3 => ?_) (fun _ _ _ _ eo => nomatch eo)
          cases eo
          exact passx hC hE hEk (KA_tr hKA hka (by decide)) hLX hR hS h1 h2 h3 (nleq hm hem) (nleq hn hen)
        refine kcx_vR (q := q103) (vx_runS (As := [.int 0]) (rest := []) ⟨hx, hb, hml, hown, hts⟩ (mX5_demandState l hst D dA ad31 q25 _ x mi 0 (.inr q103) m105 n106 hcq103) (va_cwS 1 hts gX5_82 rfl rfl rfl (by decide +kernel) ⟨Nat.le_of_ble_eq_true rfl, Nat.le_of_ble_eq_true rfl⟩) (preSA_of hA hR hS hK hX hLX _) rfl rfl hl.1 rfl (lv_room (Nat.le_of_ble_eq_true rfl)) dX5_place_70 ⟨nle hm hem, nle hn hen⟩) hA hR hS (fun ad109 H locs hka hLX hR hS => ?_)
        have e110 := (hka 0 0 rfl (by decide)).1
        have hl : lv_has ls 8 [(6, .int x33), (0, .ref (ad109 0 0)), (1, .int a1), (2, .int a2), (3, .int a3), (4, .int a4), (5, .int a5)] := by rw [e110]; exact hl
        have hKA := KA_tr hKA hka (by decide)
        have hm := nadd hm hem
        have hn := nadd hn hen
        obtain ⟨g111, hf⟩ := gd_of hf
        obtain ⟨m112, n113, hf, hem, hen⟩ := tk_of hf
        refine new_17 hC hK hA hR hS hLX g111 q_279 (nle hm hem) (nle hn hen) dX5_place_73 (fun ad114 H hka hLX hR hS => ?_)
        have e115 := (hka 0 0 rfl (by decide)).1
        have hl : lv_has ls 8 [(6, .int x33), (0, .ref (ad114 0 0)), (1, .int a1), (2, .int a2), (3, .int a3), (4, .int a4), (5, .int a5)] := by rw [e115]; exact hl
        have hKA := KA_tr hKA hka (by decide)
        have hm := nadd hm hem
        have hn := nadd hn hen
        refine lv_dup hx hb dX5_place_76 rfl ?_
        refine lv_iload hx hb dX5_place_77 (lv_at hl 0 rfl) ?_
        refine lv_iload_n hx hb dX5_place_79 rfl (lv_at hl 2 rfl) ?_
        refine lv_iload_n hx hb dX5_place_80 rfl (lv_at hl 3 rfl) ?_
        refine lv_iload_n hx hb dX5_place_81 rfl (lv_at hl 4 rfl) ?_
        refine lv_iload hx hb dX5_place_82 (lv_at hl 5 rfl) ?_
        refine lv_iload hx hb dX5_place_84 (lv_at hl 6 rfl) ?_
        obtain ⟨q116, hcq116, hf⟩ := bd_of hf
        obtain ⟨g117, hf⟩ := gd_of hf
        refine kc_v (va_runIN (As := [.int x33, .int a1, .int a2, .int a3, .int a4, .int a5]) (rest := [.ref (ad114 17 (gN q103 5))]) ⟨hx, hb, hml, hown, hts⟩ (mX2_init l D dA ad114 (newO q103) _ (gN q103 5) x33 a1 a2 a3 a4 a5 q116 hcq116 (Nat.lt_succ_self _)) ⟨va_cnB 6 hts gX5_117 rfl rfl rfl (hK.2 _ q_421) (hts _ q_51) (by decide +kernel) ⟨Nat.le_of_ble_eq_true rfl, Nat.le_of_ble_eq_true rfl⟩, rfl, hts _ q_422⟩ (preS_of hR hK _) rfl rfl hl.1 rfl (lv_room (Nat.le_of_ble_eq_true rfl)) dX5_place_86 ⟨nle0 hm, nle0 hn⟩) hA hR hS (fun H locs hR hS => ?_)
        have hKA := KA_same hKA g117
        have hLX := LX_same hLX g117
        have w118 : cvC q116 17 (gN q103 5) := by rw [cvC_same g117]; exact (Nat.lt_succ_self _)
        refine lv_astore (lv' := [(7, .ref (ad114 17 (gN q103 5))), (6, .int x33), (0, .ref (ad114 0 0)), (1, .int a1), (2, .int a2), (3, .int a3), (4, .int a4), (5, .int a5)]) hx hb dX5_place_89 hl (by decide) rfl (fun ls hl => ?_)
        refine lv_aload_n hx hb dX5_place_91 rfl (lv_at hl 2 rfl) ?_
        refine va_get (D := D) (ci := 6) (C := RX5) (T := TX5) (N := 8) hx hb hts iuX5 hown hK.1 (WW_one hR (f := 0) (i := 0) rfl) 0 rfl rfl 3 (by decide) (hts _ q_167) (fun _ h9 => h9) rfl dX5_place_92 ?_
        refine lv_aload hx hb dX5_place_95 (lv_at hl 0 rfl) ?_
        obtain ⟨g119, hf⟩ := gd_of hf
        obtain ⟨m120, n121, hf, hem, hen⟩ := tk_of hf
        refine W.eq (g2 := F0 m 97 ls (.ref (ad114 17 (gN q116 0)) :: .ref (ad114 12 0) :: [])) (by rw [← g119.2.2.2]) ?_
        refine addw_12 (rest := []) hC hK hA hR hS hX hLX g119.1 g119.2.1 g119.2.2.1 hl q_450 ⟨Nat.le_of_ble_eq_true rfl, Nat.le_of_ble_eq_true rfl⟩ (lv_room (Nat.le_of_ble_eq_true rfl)) ⟨nle hm hem, nle hn hen⟩ dX5_place_97 (fun ad122 H locs hka hLX hR hS => ?_)
        have e123 := (hka 17 (gN q103 5) w118 (by decide)).1
        have w124 := (hka 17 (gN q103 5) w118 (by decide)).2
        have e125 := (hka 0 0 rfl (by decide)).1
        have hl : lv_has ls 8 [(7, .ref (ad122 17 (gN q103 5))), (6, .int x33), (0, .ref (ad122 0 0)), (1, .int a1), (2, .int a2), (3, .int a3), (4, .int a4), (5, .int a5)] := by rw [e123, e125]; exact hl
        have hKA := KA_tr hKA hka (by decide)
        have hm := nadd hm hem
        have hn := nadd hn hen
        refine lv_pop hx hb dX5_place_100 rfl ?_
        refine lv_aload_n hx hb dX5_place_101 rfl (lv_at hl 2 rfl) ?_
        refine lv_aload hx hb dX5_place_102 (lv_at hl 0 rfl) ?_
        obtain ⟨q126, m127, n128, m129, n130, hcq126, hf, hem, hen⟩ := bt2_of hf
        refine kca_v (va_runV (As := [.ref (ad122 17 (gN q103 5))]) (rest := []) ⟨hx, hb, hml, hown, hts⟩ (mX5_match l D dA ad122 (addL12 q116) _ x mi (gN q103 5) q126 m127 n128 hcq126 w124) (cwV 1 hts gX5_124 rfl rfl rfl (by decide +kernel) ⟨Nat.le_of_ble_eq_true rfl, Nat.le_of_ble_eq_true rfl⟩) (preVA_of hA hR hS hK hX hLX _) rfl rfl hl.1 rfl (lv_room (Nat.le_of_ble_eq_true rfl)) dX5_place_104 ⟨nle hm hem, nle hn hen⟩) hA hR hS (fun ad131 H locs hka hLX hR hS => ?_)
        have e132 := (hka 17 (gN q103 5) w124 (by decide)).1
        have w133 := (hka 17 (gN q103 5) w124 (by decide)).2
        have e134 := (hka 0 0 rfl (by decide)).1
        have hl : lv_has ls 8 [(7, .ref (ad131 17 (gN q103 5))), (6, .int x33), (0, .ref (ad131 0 0)), (1, .int a1), (2, .int a2), (3, .int a3), (4, .int a4), (5, .int a5)] := by rw [e132, e134]; exact hl
        have hKA := KA_tr hKA hka (by decide)
        have hm := nadd hm hem
        have hn := nadd hn hen
        refine lv_iload hx hb dX5_place_107 (lv_at hl 1 rfl) ?_
        cases hf
        exact retx_i hC hKA hLX hR hS (nfin hm) (nfin hn) dX5_place_109
      · have hf := if_of_neg hf c102
        refine lv_iconst (v := 1) hx hb dX5_place_65 (by decide) ?_
        refine lv_goto (tgt := 70) hx hb dX5_place_66 (by decide) ?_
        rcases xb_of hf with ⟨e136, m137, n138, hcq135, rfl, hem, hen⟩ | ⟨q135, m137, n138, m139, n140, hcq135, hf, hem, hen⟩
        · refine kcx_v (vx_runS (As := [.int 1]) (rest := []) ⟨hx, hb, hml, hown, hts⟩ (mX5_demandState l hst D dA ad31 q25 _ x mi 1 (.inl e136) m137 n138 hcq135) (va_cwS 1 hts gX5_82 rfl rfl rfl (by decide +kernel) ⟨Nat.le_of_ble_eq_true rfl, Nat.le_of_ble_eq_true rfl⟩) (preSA_of hA hR hS hK hX hLX _) rfl rfl hl.1 rfl (lv_room (Nat.le_of_ble_eq_true rfl)) dX5_place_70 ⟨nleq hm hem, nleq hn hen⟩) hA hR hS (fun k σ' ad' H1 locs1 E ce q9 eo hEk hka hLX hR hS h1 h2 h3 => ?_) (fun _ _ _ _ eo => nomatch eo)
          cases eo
          exact passx hC hE hEk (KA_tr hKA hka (by decide)) hLX hR hS h1 h2 h3 (nleq hm hem) (nleq hn hen)
        refine kcx_vR (q := q135) (vx_runS (As := [.int 1]) (rest := []) ⟨hx, hb, hml, hown, hts⟩ (mX5_demandState l hst D dA ad31 q25 _ x mi 1 (.inr q135) m137 n138 hcq135) (va_cwS 1 hts gX5_82 rfl rfl rfl (by decide +kernel) ⟨Nat.le_of_ble_eq_true rfl, Nat.le_of_ble_eq_true rfl⟩) (preSA_of hA hR hS hK hX hLX _) rfl rfl hl.1 rfl (lv_room (Nat.le_of_ble_eq_true rfl)) dX5_place_70 ⟨nle hm hem, nle hn hen⟩) hA hR hS (fun ad141 H locs hka hLX hR hS => ?_)
        have e142 := (hka 0 0 rfl (by decide)).1
        have hl : lv_has ls 8 [(6, .int x33), (0, .ref (ad141 0 0)), (1, .int a1), (2, .int a2), (3, .int a3), (4, .int a4), (5, .int a5)] := by rw [e142]; exact hl
        have hKA := KA_tr hKA hka (by decide)
        have hm := nadd hm hem
        have hn := nadd hn hen
        obtain ⟨g143, hf⟩ := gd_of hf
        obtain ⟨m144, n145, hf, hem, hen⟩ := tk_of hf
        refine new_17 hC hK hA hR hS hLX g143 q_279 (nle hm hem) (nle hn hen) dX5_place_73 (fun ad146 H hka hLX hR hS => ?_)
        have e147 := (hka 0 0 rfl (by decide)).1
        have hl : lv_has ls 8 [(6, .int x33), (0, .ref (ad146 0 0)), (1, .int a1), (2, .int a2), (3, .int a3), (4, .int a4), (5, .int a5)] := by rw [e147]; exact hl
        have hKA := KA_tr hKA hka (by decide)
        have hm := nadd hm hem
        have hn := nadd hn hen
        refine lv_dup hx hb dX5_place_76 rfl ?_
        refine lv_iload hx hb dX5_place_77 (lv_at hl 0 rfl) ?_
        refine lv_iload_n hx hb dX5_place_79 rfl (lv_at hl 2 rfl) ?_
        refine lv_iload_n hx hb dX5_place_80 rfl (lv_at hl 3 rfl) ?_
        refine lv_iload_n hx hb dX5_place_81 rfl (lv_at hl 4 rfl) ?_
        refine lv_iload hx hb dX5_place_82 (lv_at hl 5 rfl) ?_
        refine lv_iload hx hb dX5_place_84 (lv_at hl 6 rfl) ?_
        obtain ⟨q148, hcq148, hf⟩ := bd_of hf
        obtain ⟨g149, hf⟩ := gd_of hf
        refine kc_v (va_runIN (As := [.int x33, .int a1, .int a2, .int a3, .int a4, .int a5]) (rest := [.ref (ad146 17 (gN q135 5))]) ⟨hx, hb, hml, hown, hts⟩ (mX2_init l D dA ad146 (newO q135) _ (gN q135 5) x33 a1 a2 a3 a4 a5 q148 hcq148 (Nat.lt_succ_self _)) ⟨va_cnB 6 hts gX5_117 rfl rfl rfl (hK.2 _ q_421) (hts _ q_51) (by decide +kernel) ⟨Nat.le_of_ble_eq_true rfl, Nat.le_of_ble_eq_true rfl⟩, rfl, hts _ q_422⟩ (preS_of hR hK _) rfl rfl hl.1 rfl (lv_room (Nat.le_of_ble_eq_true rfl)) dX5_place_86 ⟨nle0 hm, nle0 hn⟩) hA hR hS (fun H locs hR hS => ?_)
        have hKA := KA_same hKA g149
        have hLX := LX_same hLX g149
        have w150 : cvC q148 17 (gN q135 5) := by rw [cvC_same g149]; exact (Nat.lt_succ_self _)
        refine lv_astore (lv' := [(7, .ref (ad146 17 (gN q135 5))), (6, .int x33), (0, .ref (ad146 0 0)), (1, .int a1), (2, .int a2), (3, .int a3), (4, .int a4), (5, .int a5)]) hx hb dX5_place_89 hl (by decide) rfl (fun ls hl => ?_)
        refine lv_aload_n hx hb dX5_place_91 rfl (lv_at hl 2 rfl) ?_
        refine va_get (D := D) (ci := 6) (C := RX5) (T := TX5) (N := 8) hx hb hts iuX5 hown hK.1 (WW_one hR (f := 0) (i := 0) rfl) 0 rfl rfl 3 (by decide) (hts _ q_167) (fun _ h9 => h9) rfl dX5_place_92 ?_
        refine lv_aload hx hb dX5_place_95 (lv_at hl 0 rfl) ?_
        obtain ⟨g151, hf⟩ := gd_of hf
        obtain ⟨m152, n153, hf, hem, hen⟩ := tk_of hf
        refine W.eq (g2 := F0 m 97 ls (.ref (ad146 17 (gN q148 0)) :: .ref (ad146 12 0) :: [])) (by rw [← g151.2.2.2]) ?_
        refine addw_12 (rest := []) hC hK hA hR hS hX hLX g151.1 g151.2.1 g151.2.2.1 hl q_450 ⟨Nat.le_of_ble_eq_true rfl, Nat.le_of_ble_eq_true rfl⟩ (lv_room (Nat.le_of_ble_eq_true rfl)) ⟨nle hm hem, nle hn hen⟩ dX5_place_97 (fun ad154 H locs hka hLX hR hS => ?_)
        have e155 := (hka 17 (gN q135 5) w150 (by decide)).1
        have w156 := (hka 17 (gN q135 5) w150 (by decide)).2
        have e157 := (hka 0 0 rfl (by decide)).1
        have hl : lv_has ls 8 [(7, .ref (ad154 17 (gN q135 5))), (6, .int x33), (0, .ref (ad154 0 0)), (1, .int a1), (2, .int a2), (3, .int a3), (4, .int a4), (5, .int a5)] := by rw [e155, e157]; exact hl
        have hKA := KA_tr hKA hka (by decide)
        have hm := nadd hm hem
        have hn := nadd hn hen
        refine lv_pop hx hb dX5_place_100 rfl ?_
        refine lv_aload_n hx hb dX5_place_101 rfl (lv_at hl 2 rfl) ?_
        refine lv_aload hx hb dX5_place_102 (lv_at hl 0 rfl) ?_
        obtain ⟨q158, m159, n160, m161, n162, hcq158, hf, hem, hen⟩ := bt2_of hf
        refine kca_v (va_runV (As := [.ref (ad154 17 (gN q135 5))]) (rest := []) ⟨hx, hb, hml, hown, hts⟩ (mX5_match l D dA ad154 (addL12 q148) _ x mi (gN q135 5) q158 m159 n160 hcq158 w156) (cwV 1 hts gX5_124 rfl rfl rfl (by decide +kernel) ⟨Nat.le_of_ble_eq_true rfl, Nat.le_of_ble_eq_true rfl⟩) (preVA_of hA hR hS hK hX hLX _) rfl rfl hl.1 rfl (lv_room (Nat.le_of_ble_eq_true rfl)) dX5_place_104 ⟨nle hm hem, nle hn hen⟩) hA hR hS (fun ad163 H locs hka hLX hR hS => ?_)
        have e164 := (hka 17 (gN q135 5) w156 (by decide)).1
        have w165 := (hka 17 (gN q135 5) w156 (by decide)).2
        have e166 := (hka 0 0 rfl (by decide)).1
        have hl : lv_has ls 8 [(7, .ref (ad163 17 (gN q135 5))), (6, .int x33), (0, .ref (ad163 0 0)), (1, .int a1), (2, .int a2), (3, .int a3), (4, .int a4), (5, .int a5)] := by rw [e164, e166]; exact hl
        have hKA := KA_tr hKA hka (by decide)
        have hm := nadd hm hem
        have hn := nadd hn hen
        refine lv_iload hx hb dX5_place_107 (lv_at hl 1 rfl) ?_
        cases hf
        exact retx_i hC hKA hLX hR hS (nfin hm) (nfin hn) dX5_place_109
def fX5_cancel (σ : St) (a1 : Int32) : Option ((XO (Int32 × St)) × Nat × Nat) := xb (fX5_demandOrder σ a1) (fun q1 => gd (vin a1 (gN q1 0)) (gd (lok0 q1) (if (gI q1 35 a1.toNatClampNeg 0) ≤ 0 then xb (fX5_demandState q1 0) (fun q12 => kst (gI q12 35 a1.toNatClampNeg 0) (fun x22 => some (.inr (x22, pI q12 35 a1.toNatClampNeg 0 0), 0, 0))) else xb (fX5_demandState q1 1) (fun q23 => kst (gI q23 35 a1.toNatClampNeg 0) (fun x33 => some (.inr (x33, pI q23 35 a1.toNatClampNeg 0 0), 0, 0))))))
set_option maxHeartbeats 4000000 in
set_option maxRecDepth 100000 in
theorem mX5_cancel (l : Launch) (hst : l.stackTraces = false) (D : va_G) (dA : Nat → ClassId) (ad : Nat → Nat → Nat) (σ : St) (sz x mi : Nat) (a1 : Int32) (o : XO (Int32 × St)) (mc ms : Nat) (hf : fX5_cancel σ a1 = some (o, mc, ms)) : vx_Met l yX5_cancel (WSy yX5_cancel cX5_cancel 4 (some .int)) ({ frames := 7, cells := mc, slots := ms, locals := 111 } : Room) (va_Pc [.ref (ad 0 0), .int a1] (PreA D dA ad σ x mi sz)) (QXi o D dA [] ad σ x (WA ad (cvC σ) sz)) (XXC o D dA [] ad σ x (WA ad (cvC σ) sz)) mc ms (WA ad (cvC σ) sz) := by
  refine metx_of (by decide) (Nat.le_of_ble_eq_true rfl) ?_
  intro p e s m below meth c ls hC hE hB hl
  obtain ⟨rfl, hR, hK, hX, hLX⟩ := hB
  have hA : ∀ q : Nat, s.heap.size ≤ q → WA ad (cvC σ) s.heap.size q := fun q h => Or.inr h
  have hR := WW_fit (B := WA ad (cvC σ) s.heap.size) hR (fun f i h => WA_in h)
  have hS : va_S (WA ad (cvC σ) s.heap.size) s.heap s.heap [] := va_S.rf
  generalize WA ad (cvC σ) s.heap.size = A0 at hA hR hS hX ⊢
  have hC : CTX p s m _ meth c cX5_cancel 4 RX5 (some .int) := hC
  obtain ⟨hx, hb, hml, hown, hts, hr, hlk⟩ := id hC
  have hl : lv_has ls 4 [(0, .ref (ad 0 0)), (1, .int a1)] := hl
  have hKA : KA [] ad ad σ σ := KA_rf _ _ _
  have hm : mc = 0 + mc := (Nat.zero_add mc).symm
  have hn : ms = 0 + ms := (Nat.zero_add ms).symm
  unfold fX5_cancel at hf
  refine lv_aload_n hx hb dX5_cancel_0 rfl (lv_at hl 0 rfl) ?_
  refine lv_iload_n hx hb dX5_cancel_1 rfl (lv_at hl 1 rfl) ?_
  rcases xb_of hf with ⟨e2, m3, n4, hcq1, rfl, hem, hen⟩ | ⟨q1, m3, n4, m5, n6, hcq1, hf, hem, hen⟩
  · refine kcx_v (vx_runV (As := [.int a1]) (rest := []) ⟨hx, hb, hml, hown, hts⟩ (mX5_demandOrder l hst D dA ad σ _ x mi a1 (.inl e2) m3 n4 hcq1) (cwV 1 hts gX5_128 rfl rfl rfl (by decide +kernel) ⟨Nat.le_of_ble_eq_true rfl, Nat.le_of_ble_eq_true rfl⟩) (preVA_of hA hR hS hK hX hLX _) rfl rfl hl.1 rfl (lv_room (Nat.le_of_ble_eq_true rfl)) dX5_cancel_2 ⟨nleq hm hem, nleq hn hen⟩) hA hR hS (fun k σ' ad' H1 locs1 E ce q9 eo hEk hka hLX hR hS h1 h2 h3 => ?_) (fun _ _ _ _ eo => nomatch eo)
    cases eo
    exact passx hC hE hEk (KA_tr hKA hka (by decide)) hLX hR hS h1 h2 h3 (nleq hm hem) (nleq hn hen)
  refine kcx_vR (q := q1) (vx_runV (As := [.int a1]) (rest := []) ⟨hx, hb, hml, hown, hts⟩ (mX5_demandOrder l hst D dA ad σ _ x mi a1 (.inr q1) m3 n4 hcq1) (cwV 1 hts gX5_128 rfl rfl rfl (by decide +kernel) ⟨Nat.le_of_ble_eq_true rfl, Nat.le_of_ble_eq_true rfl⟩) (preVA_of hA hR hS hK hX hLX _) rfl rfl hl.1 rfl (lv_room (Nat.le_of_ble_eq_true rfl)) dX5_cancel_2 ⟨nle hm hem, nle hn hen⟩) hA hR hS (fun ad7 H locs hka hLX hR hS => ?_)
  have e8 := (hka 0 0 rfl (by decide)).1
  have hl : lv_has ls 4 [(0, .ref (ad7 0 0)), (1, .int a1)] := by rw [e8]; exact hl
  have hKA := KA_tr hKA hka (by decide)
  have hm := nadd hm hem
  have hn := nadd hn hen
  refine lv_aload_n hx hb dX5_cancel_5 rfl (lv_at hl 0 rfl) ?_
  refine va_get (D := D) (ci := 6) (C := RX5) (T := TX5) (N := 8) hx hb hts iuX5 hown hK.1 (WW_one hR (f := 0) (i := 0) rfl) 0 rfl rfl 3 (by decide) (hts _ q_167) (fun _ h9 => h9) rfl dX5_cancel_6 ?_
  refine lv_iload_n hx hb dX5_cancel_9 rfl (lv_at hl 1 rfl) ?_
  obtain ⟨g9, hf⟩ := gd_of hf
  obtain ⟨g10, hf⟩ := gd_of hf
  refine ls_get12 (rest := []) hC hK hA hR hS hl g9 (vin_mono g9 g10.1) (Nat.lt_of_le_of_lt g10.1 g10.2.2) q_265 ⟨Nat.le_of_ble_eq_true rfl, Nat.le_of_ble_eq_true rfl⟩ (lv_room (Nat.le_of_ble_eq_true rfl)) ⟨nle0 hm, nle0 hn⟩ dX5_cancel_10 (fun H locs hR hS => ?_)
  refine cast_of hx hb hown (hts _ q_279) hK (WW_at hR (f := 17) (i := a1.toNatClampNeg) (Nat.lt_of_lt_of_le (vin_lt g9) g10.2.1)) (ci := 3) rfl rfl dX5_cancel_13 ?_
  refine lv_astore_n (lv' := [(2, .ref (ad7 17 a1.toNatClampNeg)), (0, .ref (ad7 0 0)), (1, .int a1)]) hx hb dX5_cancel_16 rfl hl (by decide) rfl (fun ls hl => ?_)
  refine lv_aload_n hx hb dX5_cancel_17 rfl (lv_at hl 0 rfl) ?_
  refine va_getN (D := D) (ci := 3) (C := RX2) (T := TX2) (N := 6) hx hb hts iuX2 hown hK.1 (WW_one hR (f := 17) (i := a1.toNatClampNeg) (Nat.lt_of_lt_of_le (vin_lt g9) g10.2.1)) 0 rfl rfl 5 (by decide) (nw_f hK.2 q_436) (fun _ h9 => h9) rfl dX5_cancel_18 ?_
  refine lv_if_le (tgt := 28) hx hb dX5_cancel_21 (by decide) (fun c11 => ?_) (fun c11 => ?_)
  · have hf := if_of_pos hf c11
    refine lv_iconst (v := 0) hx hb dX5_cancel_28 (by decide) ?_
    rcases xb_of hf with ⟨e13, m14, n15, hcq12, rfl, hem, hen⟩ | ⟨q12, m14, n15, m16, n17, hcq12, hf, hem, hen⟩
    · refine kcx_v (vx_runS (As := [.int 0]) (rest := []) ⟨hx, hb, hml, hown, hts⟩ (mX5_demandState l hst D dA ad7 q1 _ x mi 0 (.inl e13) m14 n15 hcq12) (va_cwS 1 hts gX5_82 rfl rfl rfl (by decide +kernel) ⟨Nat.le_of_ble_eq_true rfl, Nat.le_of_ble_eq_true rfl⟩) (preSA_of hA hR hS hK hX hLX _) rfl rfl hl.1 rfl (lv_room (Nat.le_of_ble_eq_true rfl)) dX5_cancel_29 ⟨nleq hm hem, nleq hn hen⟩) hA hR hS (fun k σ' ad' H1 locs1 E ce q9 eo hEk hka hLX hR hS h1 h2 h3 => ?_) (fun _ _ _ _ eo => nomatch eo)
      cases eo
      exact passx hC hE hEk (KA_tr hKA hka (by decide)) hLX hR hS h1 h2 h3 (nleq hm hem) (nleq hn hen)
    refine kcx_vR (q := q12) (vx_runS (As := [.int 0]) (rest := []) ⟨hx, hb, hml, hown, hts⟩ (mX5_demandState l hst D dA ad7 q1 _ x mi 0 (.inr q12) m14 n15 hcq12) (va_cwS 1 hts gX5_82 rfl rfl rfl (by decide +kernel) ⟨Nat.le_of_ble_eq_true rfl, Nat.le_of_ble_eq_true rfl⟩) (preSA_of hA hR hS hK hX hLX _) rfl rfl hl.1 rfl (lv_room (Nat.le_of_ble_eq_true rfl)) dX5_cancel_29 ⟨nle hm hem, nle hn hen⟩) hA hR hS (fun ad18 H locs hka hLX hR hS => ?_)
    have e19 := (hka 17 a1.toNatClampNeg (Nat.lt_of_lt_of_le (vin_lt g9) g10.2.1) (by decide)).1
    have w20 := (hka 17 a1.toNatClampNeg (Nat.lt_of_lt_of_le (vin_lt g9) g10.2.1) (by decide)).2
    have e21 := (hka 0 0 rfl (by decide)).1
    have hl : lv_has ls 4 [(2, .ref (ad18 17 a1.toNatClampNeg)), (0, .ref (ad18 0 0)), (1, .int a1)] := by rw [e19, e21]; exact hl
    have hKA := KA_tr hKA hka (by decide)
    have hm := nadd hm hem
    have hn := nadd hn hen
    refine lv_aload_n hx hb dX5_cancel_32 rfl (lv_at hl 0 rfl) ?_
    refine va_getN (D := D) (ci := 3) (C := RX2) (T := TX2) (N := 6) hx hb hts iuX2 hown hK.1 (WW_one hR (f := 17) (i := a1.toNatClampNeg) w20) 0 rfl rfl 5 (by decide) (nw_f hK.2 q_436) (fun _ h9 => h9) rfl dX5_cancel_33 ?_
    refine lv_topi (fun x22 hx22 => ?_)
    have hf := kst_eq hx22 hf
    refine lv_istore_n (lv' := [(3, .int x22), (2, .ref (ad18 17 a1.toNatClampNeg)), (0, .ref (ad18 0 0)), (1, .int a1)]) hx hb dX5_cancel_36 rfl hl (by decide) rfl (fun ls hl => ?_)
    refine lv_aload_n hx hb dX5_cancel_37 rfl (lv_at hl 1 rfl) ?_
    refine lv_iconst (v := 0) hx hb dX5_cancel_38 (by decide) ?_
    refine ww_putN (D := D) (ci := 3) (C := RX2) (T := TX2) (N := 6) (ty := .int) hx hb hts iuX2 tyX2 tyX2_ok nmX2 hown hK.1 hR hS (f := 17) (i := a1.toNatClampNeg) w20 rfl rfl 5 (by decide) (nw_f hK.2 q_436) (fun _ h9 => h9) rfl (by decide +kernel) rfl rfl (Nat.le_of_ble_eq_true rfl) dX5_cancel_39 (fun H locs hR hS => ?_)
    have hR := HC_Order_rest a1.toNatClampNeg 0 hR
    have hKA := KA_same (b := pI q12 35 a1.toNatClampNeg 0 0) hKA ⟨rfl, rfl, rfl, rfl, rfl, rfl, rfl⟩
    have hLX := LX_same (b := pI q12 35 a1.toNatClampNeg 0 0) hLX ⟨rfl, rfl, rfl, rfl, rfl, rfl, rfl⟩
    refine lv_iload_n hx hb dX5_cancel_42 rfl (lv_at hl 0 rfl) ?_
    cases hf
    exact retx_i hC hKA hLX hR hS (nfin hm) (nfin hn) dX5_cancel_43
  · have hf := if_of_neg hf c11
    refine lv_iconst (v := 1) hx hb dX5_cancel_24 (by decide) ?_
    refine lv_goto (tgt := 29) hx hb dX5_cancel_25 (by decide) ?_
    rcases xb_of hf with ⟨e24, m25, n26, hcq23, rfl, hem, hen⟩ | ⟨q23, m25, n26, m27, n28, hcq23, hf, hem, hen⟩
    · refine kcx_v (vx_runS (As := [.int 1]) (rest := []) ⟨hx, hb, hml, hown, hts⟩ (mX5_demandState l hst D dA ad7 q1 _ x mi 1 (.inl e24) m25 n26 hcq23) (va_cwS 1 hts gX5_82 rfl rfl rfl (by decide +kernel) ⟨Nat.le_of_ble_eq_true rfl, Nat.le_of_ble_eq_true rfl⟩) (preSA_of hA hR hS hK hX hLX _) rfl rfl hl.1 rfl (lv_room (Nat.le_of_ble_eq_true rfl)) dX5_cancel_29 ⟨nleq hm hem, nleq hn hen⟩) hA hR hS (fun k σ' ad' H1 locs1 E ce q9 eo hEk hka hLX hR hS h1 h2 h3 => ?_) (fun _ _ _ _ eo => nomatch eo)
      cases eo
      exact passx hC hE hEk (KA_tr hKA hka (by decide)) hLX hR hS h1 h2 h3 (nleq hm hem) (nleq hn hen)
    refine kcx_vR (q := q23) (vx_runS (As := [.int 1]) (rest := []) ⟨hx, hb, hml, hown, hts⟩ (mX5_demandState l hst D dA ad7 q1 _ x mi 1 (.inr q23) m25 n26 hcq23) (va_cwS 1 hts gX5_82 rfl rfl rfl (by decide +kernel) ⟨Nat.le_of_ble_eq_true rfl, Nat.le_of_ble_eq_true rfl⟩) (preSA_of hA hR hS hK hX hLX _) rfl rfl hl.1 rfl (lv_room (Nat.le_of_ble_eq_true rfl)) dX5_cancel_29 ⟨nle hm hem, nle hn hen⟩) hA hR hS (fun ad29 H locs hka hLX hR hS => ?_)
    have e30 := (hka 17 a1.toNatClampNeg (Nat.lt_of_lt_of_le (vin_lt g9) g10.2.1) (by decide)).1
    have w31 := (hka 17 a1.toNatClampNeg (Nat.lt_of_lt_of_le (vin_lt g9) g10.2.1) (by decide)).2
    have e32 := (hka 0 0 rfl (by decide)).1
    have hl : lv_has ls 4 [(2, .ref (ad29 17 a1.toNatClampNeg)), (0, .ref (ad29 0 0)), (1, .int a1)] := by rw [e30, e32]; exact hl
    have hKA := KA_tr hKA hka (by decide)
    have hm := nadd hm hem
    have hn := nadd hn hen
    refine lv_aload_n hx hb dX5_cancel_32 rfl (lv_at hl 0 rfl) ?_
    refine va_getN (D := D) (ci := 3) (C := RX2) (T := TX2) (N := 6) hx hb hts iuX2 hown hK.1 (WW_one hR (f := 17) (i := a1.toNatClampNeg) w31) 0 rfl rfl 5 (by decide) (nw_f hK.2 q_436) (fun _ h9 => h9) rfl dX5_cancel_33 ?_
    refine lv_topi (fun x33 hx33 => ?_)
    have hf := kst_eq hx33 hf
    refine lv_istore_n (lv' := [(3, .int x33), (2, .ref (ad29 17 a1.toNatClampNeg)), (0, .ref (ad29 0 0)), (1, .int a1)]) hx hb dX5_cancel_36 rfl hl (by decide) rfl (fun ls hl => ?_)
    refine lv_aload_n hx hb dX5_cancel_37 rfl (lv_at hl 1 rfl) ?_
    refine lv_iconst (v := 0) hx hb dX5_cancel_38 (by decide) ?_
    refine ww_putN (D := D) (ci := 3) (C := RX2) (T := TX2) (N := 6) (ty := .int) hx hb hts iuX2 tyX2 tyX2_ok nmX2 hown hK.1 hR hS (f := 17) (i := a1.toNatClampNeg) w31 rfl rfl 5 (by decide) (nw_f hK.2 q_436) (fun _ h9 => h9) rfl (by decide +kernel) rfl rfl (Nat.le_of_ble_eq_true rfl) dX5_cancel_39 (fun H locs hR hS => ?_)
    have hR := HC_Order_rest a1.toNatClampNeg 0 hR
    have hKA := KA_same (b := pI q23 35 a1.toNatClampNeg 0 0) hKA ⟨rfl, rfl, rfl, rfl, rfl, rfl, rfl⟩
    have hLX := LX_same (b := pI q23 35 a1.toNatClampNeg 0 0) hLX ⟨rfl, rfl, rfl, rfl, rfl, rfl, rfl⟩
    refine lv_iload_n hx hb dX5_cancel_42 rfl (lv_at hl 0 rfl) ?_
    cases hf
    exact retx_i hC hKA hLX hR hS (nfin hm) (nfin hn) dX5_cancel_43
def fX5_halt (σ : St) (a1 : Int32) (a2 : Int32) : Option ((XO (Int32 × St)) × Nat × Nat) := xb (fX5_demandProduct σ a1) (fun q1 => gd (vin a1 3) (gd (bz a2) (if a2 = 0 then some (.inr (0, pI q1 5 a1.toNatClampNeg 0 a2), 0, 0) else bd (fX5_cancelOrdersFor (pI q1 5 a1.toNatClampNeg 0 a2) a1) (fun q12 => gd (sameN q12.2 (pI q1 5 a1.toNatClampNeg 0 a2)) (some (.inr (q12.1, q12.2), 0, 0))))))
set_option maxHeartbeats 4000000 in
set_option maxRecDepth 100000 in
theorem mX5_halt (l : Launch) (hst : l.stackTraces = false) (D : va_G) (dA : Nat → ClassId) (ad : Nat → Nat → Nat) (σ : St) (sz x mi : Nat) (a1 : Int32) (a2 : Int32) (o : XO (Int32 × St)) (mc ms : Nat) (hf : fX5_halt σ a1 a2 = some (o, mc, ms)) : vx_Met l yX5_halt (WSy yX5_halt cX5_halt 3 (some .int)) ({ frames := 8, cells := mc, slots := ms, locals := 132 } : Room) (va_Pc [.ref (ad 0 0), .int a1, .int a2] (PreA D dA ad σ x mi sz)) (QXi o D dA [] ad σ x (WA ad (cvC σ) sz)) (XXC o D dA [] ad σ x (WA ad (cvC σ) sz)) mc ms (WA ad (cvC σ) sz) := by
  refine metx_of (by decide) (Nat.le_of_ble_eq_true rfl) ?_
  intro p e s m below meth c ls hC hE hB hl
  obtain ⟨rfl, hR, hK, hX, hLX⟩ := hB
  have hA : ∀ q : Nat, s.heap.size ≤ q → WA ad (cvC σ) s.heap.size q := fun q h => Or.inr h
  have hR := WW_fit (B := WA ad (cvC σ) s.heap.size) hR (fun f i h => WA_in h)
  have hS : va_S (WA ad (cvC σ) s.heap.size) s.heap s.heap [] := va_S.rf
  generalize WA ad (cvC σ) s.heap.size = A0 at hA hR hS hX ⊢
  have hC : CTX p s m _ meth c cX5_halt 3 RX5 (some .int) := hC
  obtain ⟨hx, hb, hml, hown, hts, hr, hlk⟩ := id hC
  have hl : lv_has ls 3 [(0, .ref (ad 0 0)), (1, .int a1), (2, .int a2)] := hl
  have hKA : KA [] ad ad σ σ := KA_rf _ _ _
  have hm : mc = 0 + mc := (Nat.zero_add mc).symm
  have hn : ms = 0 + ms := (Nat.zero_add ms).symm
  unfold fX5_halt at hf
  refine lv_iload_n hx hb dX5_halt_0 rfl (lv_at hl 1 rfl) ?_
  rcases xb_of hf with ⟨e2, m3, n4, hcq1, rfl, hem, hen⟩ | ⟨q1, m3, n4, m5, n6, hcq1, hf, hem, hen⟩
  · refine kcx_v (vx_runS (As := [.int a1]) (rest := []) ⟨hx, hb, hml, hown, hts⟩ (mX5_demandProduct l hst D dA ad σ _ x mi a1 (.inl e2) m3 n4 hcq1) (va_cwS 1 hts gX5_44 rfl rfl rfl (by decide +kernel) ⟨Nat.le_of_ble_eq_true rfl, Nat.le_of_ble_eq_true rfl⟩) (preSA_of hA hR hS hK hX hLX _) rfl rfl hl.1 rfl (lv_room (Nat.le_of_ble_eq_true rfl)) dX5_halt_1 ⟨nleq hm hem, nleq hn hen⟩) hA hR hS (fun k σ' ad' H1 locs1 E ce q9 eo hEk hka hLX hR hS h1 h2 h3 => ?_) (fun _ _ _ _ eo => nomatch eo)
    cases eo
    exact passx hC hE hEk (KA_tr hKA hka (by decide)) hLX hR hS h1 h2 h3 (nleq hm hem) (nleq hn hen)
  refine kcx_vR (q := q1) (vx_runS (As := [.int a1]) (rest := []) ⟨hx, hb, hml, hown, hts⟩ (mX5_demandProduct l hst D dA ad σ _ x mi a1 (.inr q1) m3 n4 hcq1) (va_cwS 1 hts gX5_44 rfl rfl rfl (by decide +kernel) ⟨Nat.le_of_ble_eq_true rfl, Nat.le_of_ble_eq_true rfl⟩) (preSA_of hA hR hS hK hX hLX _) rfl rfl hl.1 rfl (lv_room (Nat.le_of_ble_eq_true rfl)) dX5_halt_1 ⟨nle hm hem, nle hn hen⟩) hA hR hS (fun ad7 H locs hka hLX hR hS => ?_)
  have e8 := (hka 0 0 rfl (by decide)).1
  have hl : lv_has ls 3 [(0, .ref (ad7 0 0)), (1, .int a1), (2, .int a2)] := by rw [e8]; exact hl
  have hKA := KA_tr hKA hka (by decide)
  have hm := nadd hm hem
  have hn := nadd hn hen
  refine lv_aload_n hx hb dX5_halt_4 rfl (lv_at hl 0 rfl) ?_
  refine va_get (D := D) (ci := 6) (C := RX5) (T := TX5) (N := 8) hx hb hts iuX5 hown hK.1 (WW_one hR (f := 0) (i := 0) rfl) 0 rfl rfl 1 (by decide) (hts _ q_165) (fun _ h9 => h9) rfl dX5_halt_5 ?_
  refine lv_iload_n hx hb dX5_halt_8 rfl (lv_at hl 1 rfl) ?_
  obtain ⟨g9, hf⟩ := gd_of hf
  refine va_aldq (C := RX3) hx hb hK.1 (WW_one hR (f := 6) (i := 0) rfl) 0 4 rfl rfl g9 dX5_halt_9 ?_
  refine lv_iload_n hx hb dX5_halt_10 rfl (lv_at hl 2 rfl) ?_
  obtain ⟨g10, hf⟩ := gd_of hf
  refine ww_putN (D := D) (ci := 4) (C := RX3) (T := TX3) (N := 3) (ty := .boolean) hx hb hts iuX3 tyX3 tyX3_ok nmX3 hown hK.1 hR hS (f := 7) (i := a1.toNatClampNeg) (vin_lt g9) rfl rfl 1 (by decide) (nw_f hK.2 q_140) (fun _ h9 => h9) rfl (by decide +kernel) (bz_nar g10) (bz_fit g10) (Nat.le_of_ble_eq_true rfl) dX5_halt_11 (fun H locs hR hS => ?_)
  have hR := HC_Product_halted a1.toNatClampNeg a2 hR
  have hKA := KA_same (b := pI q1 5 a1.toNatClampNeg 0 a2) hKA ⟨rfl, rfl, rfl, rfl, rfl, rfl, rfl⟩
  have hLX := LX_same (b := pI q1 5 a1.toNatClampNeg 0 a2) hLX ⟨rfl, rfl, rfl, rfl, rfl, rfl, rfl⟩
  refine lv_iload_n hx hb dX5_halt_14 rfl (lv_at hl 2 rfl) ?_
  refine lv_if_eq (tgt := 26) hx hb dX5_halt_15 (by decide) (fun c11 => ?_) (fun c11 => ?_)
  · have hf := if_of_pos hf c11
    refine lv_iconst (v := 0) hx hb dX5_halt_26 (by decide) ?_
    cases hf
    exact retx_i hC hKA hLX hR hS (nfin hm) (nfin hn) dX5_halt_27
  · have hf := if_of_neg hf c11
    refine lv_aload_n hx hb dX5_halt_18 rfl (lv_at hl 0 rfl) ?_
    refine lv_iload_n hx hb dX5_halt_19 rfl (lv_at hl 1 rfl) ?_
    obtain ⟨q12, hcq12, hf⟩ := bd_of hf
    obtain ⟨g13, hf⟩ := gd_of hf
    refine kc_i (va_runV (As := [.int a1]) (rest := []) ⟨hx, hb, hml, hown, hts⟩ (mX5_cancelOrdersFor l D dA ad7 (pI q1 5 a1.toNatClampNeg 0 a2) _ a1 q12.1 q12.2 hcq12) (cwV 1 hts gX5_138 rfl rfl rfl (by decide +kernel) ⟨Nat.le_of_ble_eq_true rfl, Nat.le_of_ble_eq_true rfl⟩) (preV_of hR hK (f := 0) (i := 0) rfl rfl rfl _) rfl rfl hl.1 rfl (lv_room (Nat.le_of_ble_eq_true rfl)) dX5_halt_20 ⟨nle0 hm, nle0 hn⟩) hA hR hS (fun H locs hR hS => ?_)
    have hKA := KA_same hKA g13
    have hLX := LX_same hLX g13
    refine lv_goto (tgt := 27) hx hb dX5_halt_23 (by decide) ?_
    cases hf
    exact retx_i hC hKA hLX hR hS (nfin hm) (nfin hn) dX5_halt_27
def fX5_left (σ : St) (a1 : Int32) : Option ((XO (Int32 × St)) × Nat × Nat) := xb (fX5_demandOrder σ a1) (fun q1 => gd (vin a1 (gN q1 0)) (gd (lok0 q1) (some (.inr (gI q1 35 a1.toNatClampNeg 0, q1), 0, 0))))
set_option maxHeartbeats 4000000 in
set_option maxRecDepth 100000 in
theorem mX5_left (l : Launch) (hst : l.stackTraces = false) (D : va_G) (dA : Nat → ClassId) (ad : Nat → Nat → Nat) (σ : St) (sz x mi : Nat) (a1 : Int32) (o : XO (Int32 × St)) (mc ms : Nat) (hf : fX5_left σ a1 = some (o, mc, ms)) : vx_Met l yX5_left (WSy yX5_left cX5_left 2 (some .int)) ({ frames := 7, cells := mc, slots := ms, locals := 111 } : Room) (va_Pc [.ref (ad 0 0), .int a1] (PreA D dA ad σ x mi sz)) (QXi o D dA [] ad σ x (WA ad (cvC σ) sz)) (XXC o D dA [] ad σ x (WA ad (cvC σ) sz)) mc ms (WA ad (cvC σ) sz) := by
  refine metx_of (by decide) (Nat.le_of_ble_eq_true rfl) ?_
  intro p e s m below meth c ls hC hE hB hl
  obtain ⟨rfl, hR, hK, hX, hLX⟩ := hB
  have hA : ∀ q : Nat, s.heap.size ≤ q → WA ad (cvC σ) s.heap.size q := fun q h => Or.inr h
  have hR := WW_fit (B := WA ad (cvC σ) s.heap.size) hR (fun f i h => WA_in h)
  have hS : va_S (WA ad (cvC σ) s.heap.size) s.heap s.heap [] := va_S.rf
  generalize WA ad (cvC σ) s.heap.size = A0 at hA hR hS hX ⊢
  have hC : CTX p s m _ meth c cX5_left 2 RX5 (some .int) := hC
  obtain ⟨hx, hb, hml, hown, hts, hr, hlk⟩ := id hC
  have hl : lv_has ls 2 [(0, .ref (ad 0 0)), (1, .int a1)] := hl
  have hKA : KA [] ad ad σ σ := KA_rf _ _ _
  have hm : mc = 0 + mc := (Nat.zero_add mc).symm
  have hn : ms = 0 + ms := (Nat.zero_add ms).symm
  unfold fX5_left at hf
  refine lv_aload_n hx hb dX5_left_0 rfl (lv_at hl 0 rfl) ?_
  refine lv_iload_n hx hb dX5_left_1 rfl (lv_at hl 1 rfl) ?_
  rcases xb_of hf with ⟨e2, m3, n4, hcq1, rfl, hem, hen⟩ | ⟨q1, m3, n4, m5, n6, hcq1, hf, hem, hen⟩
  · refine kcx_v (vx_runV (As := [.int a1]) (rest := []) ⟨hx, hb, hml, hown, hts⟩ (mX5_demandOrder l hst D dA ad σ _ x mi a1 (.inl e2) m3 n4 hcq1) (cwV 1 hts gX5_128 rfl rfl rfl (by decide +kernel) ⟨Nat.le_of_ble_eq_true rfl, Nat.le_of_ble_eq_true rfl⟩) (preVA_of hA hR hS hK hX hLX _) rfl rfl hl.1 rfl (lv_room (Nat.le_of_ble_eq_true rfl)) dX5_left_2 ⟨nleq hm hem, nleq hn hen⟩) hA hR hS (fun k σ' ad' H1 locs1 E ce q9 eo hEk hka hLX hR hS h1 h2 h3 => ?_) (fun _ _ _ _ eo => nomatch eo)
    cases eo
    exact passx hC hE hEk (KA_tr hKA hka (by decide)) hLX hR hS h1 h2 h3 (nleq hm hem) (nleq hn hen)
  refine kcx_vR (q := q1) (vx_runV (As := [.int a1]) (rest := []) ⟨hx, hb, hml, hown, hts⟩ (mX5_demandOrder l hst D dA ad σ _ x mi a1 (.inr q1) m3 n4 hcq1) (cwV 1 hts gX5_128 rfl rfl rfl (by decide +kernel) ⟨Nat.le_of_ble_eq_true rfl, Nat.le_of_ble_eq_true rfl⟩) (preVA_of hA hR hS hK hX hLX _) rfl rfl hl.1 rfl (lv_room (Nat.le_of_ble_eq_true rfl)) dX5_left_2 ⟨nle hm hem, nle hn hen⟩) hA hR hS (fun ad7 H locs hka hLX hR hS => ?_)
  have e8 := (hka 0 0 rfl (by decide)).1
  have hl : lv_has ls 2 [(0, .ref (ad7 0 0)), (1, .int a1)] := by rw [e8]; exact hl
  have hKA := KA_tr hKA hka (by decide)
  have hm := nadd hm hem
  have hn := nadd hn hen
  refine lv_aload_n hx hb dX5_left_5 rfl (lv_at hl 0 rfl) ?_
  refine va_get (D := D) (ci := 6) (C := RX5) (T := TX5) (N := 8) hx hb hts iuX5 hown hK.1 (WW_one hR (f := 0) (i := 0) rfl) 0 rfl rfl 3 (by decide) (hts _ q_167) (fun _ h9 => h9) rfl dX5_left_6 ?_
  refine lv_iload_n hx hb dX5_left_9 rfl (lv_at hl 1 rfl) ?_
  obtain ⟨g9, hf⟩ := gd_of hf
  obtain ⟨g10, hf⟩ := gd_of hf
  refine ls_get12 (rest := []) hC hK hA hR hS hl g9 (vin_mono g9 g10.1) (Nat.lt_of_le_of_lt g10.1 g10.2.2) q_265 ⟨Nat.le_of_ble_eq_true rfl, Nat.le_of_ble_eq_true rfl⟩ (lv_room (Nat.le_of_ble_eq_true rfl)) ⟨nle0 hm, nle0 hn⟩ dX5_left_10 (fun H locs hR hS => ?_)
  refine cast_of hx hb hown (hts _ q_279) hK (WW_at hR (f := 17) (i := a1.toNatClampNeg) (Nat.lt_of_lt_of_le (vin_lt g9) g10.2.1)) (ci := 3) rfl rfl dX5_left_13 ?_
  refine va_getN (D := D) (ci := 3) (C := RX2) (T := TX2) (N := 6) hx hb hts iuX2 hown hK.1 (WW_one hR (f := 17) (i := a1.toNatClampNeg) (Nat.lt_of_lt_of_le (vin_lt g9) g10.2.1)) 0 rfl rfl 5 (by decide) (nw_f hK.2 q_436) (fun _ h9 => h9) rfl dX5_left_16 ?_
  cases hf
  exact retx_i hC hKA hLX hR hS (nfin hm) (nfin hn) dX5_left_19
def fX5_best (σ : St) (a1 : Int32) (a2 : Int32) : Option ((XO (Int32 × St)) × Nat × Nat) := xb (fX5_demandProduct σ a1) (fun q1 => bd (fX5_bestResting q1 a1 a2) (fun q9 => oc q9 (some (.inl (4, q1), 1, 6)) (fun k10 => gd (k10 < gN q1 5) (some (.inr (gI q1 30 k10 0, q1), 0, 0)))))
set_option maxHeartbeats 4000000 in
set_option maxRecDepth 100000 in
theorem mX5_best (l : Launch) (hst : l.stackTraces = false) (D : va_G) (dA : Nat → ClassId) (ad : Nat → Nat → Nat) (σ : St) (sz x mi : Nat) (a1 : Int32) (a2 : Int32) (o : XO (Int32 × St)) (mc ms : Nat) (hf : fX5_best σ a1 a2 = some (o, mc, ms)) : vx_Met l yX5_best (WSy yX5_best cX5_best 4 (some .int)) ({ frames := 8, cells := mc, slots := ms, locals := 132 } : Room) (va_Pc [.ref (ad 0 0), .int a1, .int a2] (PreA D dA ad σ x mi sz)) (QXi o D dA [] ad σ x (WA ad (cvC σ) sz)) (XXC o D dA [] ad σ x (WA ad (cvC σ) sz)) mc ms (WA ad (cvC σ) sz) := by
  refine metx_of (by decide) (Nat.le_of_ble_eq_true rfl) ?_
  intro p e s m below meth c ls hC hE hB hl
  obtain ⟨rfl, hR, hK, hX, hLX⟩ := hB
  have hA : ∀ q : Nat, s.heap.size ≤ q → WA ad (cvC σ) s.heap.size q := fun q h => Or.inr h
  have hR := WW_fit (B := WA ad (cvC σ) s.heap.size) hR (fun f i h => WA_in h)
  have hS : va_S (WA ad (cvC σ) s.heap.size) s.heap s.heap [] := va_S.rf
  generalize WA ad (cvC σ) s.heap.size = A0 at hA hR hS hX ⊢
  have hC : CTX p s m _ meth c cX5_best 4 RX5 (some .int) := hC
  obtain ⟨hx, hb, hml, hown, hts, hr, hlk⟩ := id hC
  have hl : lv_has ls 4 [(0, .ref (ad 0 0)), (1, .int a1), (2, .int a2)] := hl
  have hKA : KA [] ad ad σ σ := KA_rf _ _ _
  have hm : mc = 0 + mc := (Nat.zero_add mc).symm
  have hn : ms = 0 + ms := (Nat.zero_add ms).symm
  unfold fX5_best at hf
  refine lv_iload_n hx hb dX5_best_0 rfl (lv_at hl 1 rfl) ?_
  rcases xb_of hf with ⟨e2, m3, n4, hcq1, rfl, hem, hen⟩ | ⟨q1, m3, n4, m5, n6, hcq1, hf, hem, hen⟩
  · refine kcx_v (vx_runS (As := [.int a1]) (rest := []) ⟨hx, hb, hml, hown, hts⟩ (mX5_demandProduct l hst D dA ad σ _ x mi a1 (.inl e2) m3 n4 hcq1) (va_cwS 1 hts gX5_44 rfl rfl rfl (by decide +kernel) ⟨Nat.le_of_ble_eq_true rfl, Nat.le_of_ble_eq_true rfl⟩) (preSA_of hA hR hS hK hX hLX _) rfl rfl hl.1 rfl (lv_room (Nat.le_of_ble_eq_true rfl)) dX5_best_1 ⟨nleq hm hem, nleq hn hen⟩) hA hR hS (fun k σ' ad' H1 locs1 E ce q9 eo hEk hka hLX hR hS h1 h2 h3 => ?_) (fun _ _ _ _ eo => nomatch eo)
    cases eo
    exact passx hC hE hEk (KA_tr hKA hka (by decide)) hLX hR hS h1 h2 h3 (nleq hm hem) (nleq hn hen)
  refine kcx_vR (q := q1) (vx_runS (As := [.int a1]) (rest := []) ⟨hx, hb, hml, hown, hts⟩ (mX5_demandProduct l hst D dA ad σ _ x mi a1 (.inr q1) m3 n4 hcq1) (va_cwS 1 hts gX5_44 rfl rfl rfl (by decide +kernel) ⟨Nat.le_of_ble_eq_true rfl, Nat.le_of_ble_eq_true rfl⟩) (preSA_of hA hR hS hK hX hLX _) rfl rfl hl.1 rfl (lv_room (Nat.le_of_ble_eq_true rfl)) dX5_best_1 ⟨nle hm hem, nle hn hen⟩) hA hR hS (fun ad7 H locs hka hLX hR hS => ?_)
  have e8 := (hka 0 0 rfl (by decide)).1
  have hl : lv_has ls 4 [(0, .ref (ad7 0 0)), (1, .int a1), (2, .int a2)] := by rw [e8]; exact hl
  have hKA := KA_tr hKA hka (by decide)
  have hm := nadd hm hem
  have hn := nadd hn hen
  refine lv_aload_n hx hb dX5_best_4 rfl (lv_at hl 0 rfl) ?_
  refine lv_iload_n hx hb dX5_best_5 rfl (lv_at hl 1 rfl) ?_
  refine lv_iload_n hx hb dX5_best_6 rfl (lv_at hl 2 rfl) ?_
  obtain ⟨q9, hcq9, hf⟩ := bd_of hf
  refine kc_q (va_runV (As := [.int a1, .int a2]) (rest := []) ⟨hx, hb, hml, hown, hts⟩ (mX5_bestResting l D dA ad7 q1 _ a1 a2 q9 hcq9) (cwV 2 hts gX5_142 rfl rfl rfl (by decide +kernel) ⟨Nat.le_of_ble_eq_true rfl, Nat.le_of_ble_eq_true rfl⟩) (preV_of hR hK (f := 0) (i := 0) rfl rfl rfl _) rfl rfl hl.1 rfl (lv_room (Nat.le_of_ble_eq_true rfl)) dX5_best_7 ⟨nle0 hm, nle0 hn⟩) hA hR hS (fun H locs hR hS => ?_)
  cases q9 with
  | none =>
    have hf := oc_n hf
    refine lv_astore_nN (lv' := [(3, .null), (0, .ref (ad7 0 0)), (1, .int a1), (2, .int a2)]) hx hb dX5_best_10 rfl hl (by decide) rfl (fun ls hl => ?_)
    refine lv_aload_nN hx hb dX5_best_11 rfl (lv_at hl 0 rfl) ?_
    refine lv_ifnonnullN hx hb dX5_best_12 ?_
    cases hf
    exact thrx 4 hC hE hst hK hX hKA hLX hR hS fit_4 q_572 q_56 atX5_4 hl.1 dX5_best_15 dX5_best_18 dX5_best_19 dX5_best_22 (Nat.le_of_ble_eq_true rfl) (Nat.le_of_ble_eq_true rfl) (Nat.le_of_eq hm.symm) (Nat.le_of_eq hn.symm) (Nat.le_of_eq hm.symm) (Nat.le_of_eq hn.symm)
  | some k10 =>
    have hf := oc_s hf
    obtain ⟨g11, hf⟩ := gd_of hf
    refine lv_astore_n (lv' := [(3, .ref (ad7 17 k10)), (0, .ref (ad7 0 0)), (1, .int a1), (2, .int a2)]) hx hb dX5_best_10 rfl hl (by decide) rfl (fun ls hl => ?_)
    refine lv_aload_n hx hb dX5_best_11 rfl (lv_at hl 0 rfl) ?_
    refine lv_ifnonnull (tgt := 23) hx hb dX5_best_12 (by decide) ?_
    refine lv_aload_n hx hb dX5_best_23 rfl (lv_at hl 0 rfl) ?_
    refine va_getN (D := D) (ci := 3) (C := RX2) (T := TX2) (N := 6) hx hb hts iuX2 hown hK.1 (WW_one hR (f := 17) (i := k10) g11) 0 rfl rfl 0 (by decide) (nw_f hK.2 q_426) (fun _ h9 => h9) rfl dX5_best_24 ?_
    cases hf
    exact retx_i hC hKA hLX hR hS (nfin hm) (nfin hn) dX5_best_27
def fX5_called (σ : St) (a1 : Int32) : Option ((XO (Int32 × St)) × Nat × Nat) := xb (fX5_demandMember σ a1) (fun q1 => gd (vin a1 5) (some (.inr (gI q1 1 a1.toNatClampNeg 0, q1), 0, 0)))
set_option maxHeartbeats 4000000 in
set_option maxRecDepth 100000 in
theorem mX5_called (l : Launch) (hst : l.stackTraces = false) (D : va_G) (dA : Nat → ClassId) (ad : Nat → Nat → Nat) (σ : St) (sz x mi : Nat) (a1 : Int32) (o : XO (Int32 × St)) (mc ms : Nat) (hf : fX5_called σ a1 = some (o, mc, ms)) : vx_Met l yX5_called (WSy yX5_called cX5_called 2 (some .int)) ({ frames := 8, cells := mc, slots := ms, locals := 132 } : Room) (va_Pc [.ref (ad 0 0), .int a1] (PreA D dA ad σ x mi sz)) (QXi o D dA [] ad σ x (WA ad (cvC σ) sz)) (XXC o D dA [] ad σ x (WA ad (cvC σ) sz)) mc ms (WA ad (cvC σ) sz) := by
  refine metx_of (by decide) (Nat.le_of_ble_eq_true rfl) ?_
  intro p e s m below meth c ls hC hE hB hl
  obtain ⟨rfl, hR, hK, hX, hLX⟩ := hB
  have hA : ∀ q : Nat, s.heap.size ≤ q → WA ad (cvC σ) s.heap.size q := fun q h => Or.inr h
  have hR := WW_fit (B := WA ad (cvC σ) s.heap.size) hR (fun f i h => WA_in h)
  have hS : va_S (WA ad (cvC σ) s.heap.size) s.heap s.heap [] := va_S.rf
  generalize WA ad (cvC σ) s.heap.size = A0 at hA hR hS hX ⊢
  have hC : CTX p s m _ meth c cX5_called 2 RX5 (some .int) := hC
  obtain ⟨hx, hb, hml, hown, hts, hr, hlk⟩ := id hC
  have hl : lv_has ls 2 [(0, .ref (ad 0 0)), (1, .int a1)] := hl
  have hKA : KA [] ad ad σ σ := KA_rf _ _ _
  have hm : mc = 0 + mc := (Nat.zero_add mc).symm
  have hn : ms = 0 + ms := (Nat.zero_add ms).symm
  unfold fX5_called at hf
  refine lv_iload_n hx hb dX5_called_0 rfl (lv_at hl 1 rfl) ?_
  rcases xb_of hf with ⟨e2, m3, n4, hcq1, rfl, hem, hen⟩ | ⟨q1, m3, n4, m5, n6, hcq1, hf, hem, hen⟩
  · refine kcx_v (vx_runS (As := [.int a1]) (rest := []) ⟨hx, hb, hml, hown, hts⟩ (mX5_demandMember l hst D dA ad σ _ x mi a1 (.inl e2) m3 n4 hcq1) (va_cwS 1 hts gX5_73 rfl rfl rfl (by decide +kernel) ⟨Nat.le_of_ble_eq_true rfl, Nat.le_of_ble_eq_true rfl⟩) (preSA_of hA hR hS hK hX hLX _) rfl rfl hl.1 rfl (lv_room (Nat.le_of_ble_eq_true rfl)) dX5_called_1 ⟨nleq hm hem, nleq hn hen⟩) hA hR hS (fun k σ' ad' H1 locs1 E ce q9 eo hEk hka hLX hR hS h1 h2 h3 => ?_) (fun _ _ _ _ eo => nomatch eo)
    cases eo
    exact passx hC hE hEk (KA_tr hKA hka (by decide)) hLX hR hS h1 h2 h3 (nleq hm hem) (nleq hn hen)
  refine kcx_vR (q := q1) (vx_runS (As := [.int a1]) (rest := []) ⟨hx, hb, hml, hown, hts⟩ (mX5_demandMember l hst D dA ad σ _ x mi a1 (.inr q1) m3 n4 hcq1) (va_cwS 1 hts gX5_73 rfl rfl rfl (by decide +kernel) ⟨Nat.le_of_ble_eq_true rfl, Nat.le_of_ble_eq_true rfl⟩) (preSA_of hA hR hS hK hX hLX _) rfl rfl hl.1 rfl (lv_room (Nat.le_of_ble_eq_true rfl)) dX5_called_1 ⟨nle hm hem, nle hn hen⟩) hA hR hS (fun ad7 H locs hka hLX hR hS => ?_)
  have e8 := (hka 0 0 rfl (by decide)).1
  have hl : lv_has ls 2 [(0, .ref (ad7 0 0)), (1, .int a1)] := by rw [e8]; exact hl
  have hKA := KA_tr hKA hka (by decide)
  have hm := nadd hm hem
  have hn := nadd hn hen
  refine lv_aload_n hx hb dX5_called_4 rfl (lv_at hl 0 rfl) ?_
  refine va_get (D := D) (ci := 6) (C := RX5) (T := TX5) (N := 8) hx hb hts iuX5 hown hK.1 (WW_one hR (f := 0) (i := 0) rfl) 0 rfl rfl 0 (by decide) (hts _ q_164) (fun _ h9 => h9) rfl dX5_called_5 ?_
  refine lv_iload_n hx hb dX5_called_8 rfl (lv_at hl 1 rfl) ?_
  obtain ⟨g9, hf⟩ := gd_of hf
  refine va_aldq (C := RX0) hx hb hK.1 (WW_one hR (f := 1) (i := 0) rfl) 0 3 rfl rfl g9 dX5_called_9 ?_
  refine va_getN (D := D) (ci := 1) (C := RX0) (T := TX0) (N := 8) hx hb hts iuX0 hown hK.1 (WW_one hR (f := 2) (i := a1.toNatClampNeg) (vin_lt g9)) 0 rfl rfl 4 (by decide) (nw_f hK.2 q_107) (fun _ h9 => h9) rfl dX5_called_10 ?_
  cases hf
  exact retx_i hC hKA hLX hR hS (nfin hm) (nfin hn) dX5_called_13
def fX5_hasFailed (σ : St) (a1 : Int32) : Option ((XO (Int32 × St)) × Nat × Nat) := xb (fX5_demandMember σ a1) (fun q1 => gd (vin a1 5) (gd (bz (gI q1 0 a1.toNatClampNeg 0)) (some (.inr (gI q1 0 a1.toNatClampNeg 0, q1), 0, 0))))
set_option maxHeartbeats 4000000 in
set_option maxRecDepth 100000 in
theorem mX5_hasFailed (l : Launch) (hst : l.stackTraces = false) (D : va_G) (dA : Nat → ClassId) (ad : Nat → Nat → Nat) (σ : St) (sz x mi : Nat) (a1 : Int32) (o : XO (Int32 × St)) (mc ms : Nat) (hf : fX5_hasFailed σ a1 = some (o, mc, ms)) : vx_Met l yX5_hasFailed (WSy yX5_hasFailed cX5_hasFailed 2 (some .boolean)) ({ frames := 8, cells := mc, slots := ms, locals := 132 } : Room) (va_Pc [.ref (ad 0 0), .int a1] (PreA D dA ad σ x mi sz)) (QXi o D dA [] ad σ x (WA ad (cvC σ) sz)) (XXC o D dA [] ad σ x (WA ad (cvC σ) sz)) mc ms (WA ad (cvC σ) sz) := by
  refine metx_of (by decide) (Nat.le_of_ble_eq_true rfl) ?_
  intro p e s m below meth c ls hC hE hB hl
  obtain ⟨rfl, hR, hK, hX, hLX⟩ := hB
  have hA : ∀ q : Nat, s.heap.size ≤ q → WA ad (cvC σ) s.heap.size q := fun q h => Or.inr h
  have hR := WW_fit (B := WA ad (cvC σ) s.heap.size) hR (fun f i h => WA_in h)
  have hS : va_S (WA ad (cvC σ) s.heap.size) s.heap s.heap [] := va_S.rf
  generalize WA ad (cvC σ) s.heap.size = A0 at hA hR hS hX ⊢
  have hC : CTX p s m _ meth c cX5_hasFailed 2 RX5 (some .boolean) := hC
  obtain ⟨hx, hb, hml, hown, hts, hr, hlk⟩ := id hC
  have hl : lv_has ls 2 [(0, .ref (ad 0 0)), (1, .int a1)] := hl
  have hKA : KA [] ad ad σ σ := KA_rf _ _ _
  have hm : mc = 0 + mc := (Nat.zero_add mc).symm
  have hn : ms = 0 + ms := (Nat.zero_add ms).symm
  unfold fX5_hasFailed at hf
  refine lv_iload_n hx hb dX5_hasFailed_0 rfl (lv_at hl 1 rfl) ?_
  rcases xb_of hf with ⟨e2, m3, n4, hcq1, rfl, hem, hen⟩ | ⟨q1, m3, n4, m5, n6, hcq1, hf, hem, hen⟩
  · refine kcx_v (vx_runS (As := [.int a1]) (rest := []) ⟨hx, hb, hml, hown, hts⟩ (mX5_demandMember l hst D dA ad σ _ x mi a1 (.inl e2) m3 n4 hcq1) (va_cwS 1 hts gX5_73 rfl rfl rfl (by decide +kernel) ⟨Nat.le_of_ble_eq_true rfl, Nat.le_of_ble_eq_true rfl⟩) (preSA_of hA hR hS hK hX hLX _) rfl rfl hl.1 rfl (lv_room (Nat.le_of_ble_eq_true rfl)) dX5_hasFailed_1 ⟨nleq hm hem, nleq hn hen⟩) hA hR hS (fun k σ' ad' H1 locs1 E ce q9 eo hEk hka hLX hR hS h1 h2 h3 => ?_) (fun _ _ _ _ eo => nomatch eo)
    cases eo
    exact passx hC hE hEk (KA_tr hKA hka (by decide)) hLX hR hS h1 h2 h3 (nleq hm hem) (nleq hn hen)
  refine kcx_vR (q := q1) (vx_runS (As := [.int a1]) (rest := []) ⟨hx, hb, hml, hown, hts⟩ (mX5_demandMember l hst D dA ad σ _ x mi a1 (.inr q1) m3 n4 hcq1) (va_cwS 1 hts gX5_73 rfl rfl rfl (by decide +kernel) ⟨Nat.le_of_ble_eq_true rfl, Nat.le_of_ble_eq_true rfl⟩) (preSA_of hA hR hS hK hX hLX _) rfl rfl hl.1 rfl (lv_room (Nat.le_of_ble_eq_true rfl)) dX5_hasFailed_1 ⟨nle hm hem, nle hn hen⟩) hA hR hS (fun ad7 H locs hka hLX hR hS => ?_)
  have e8 := (hka 0 0 rfl (by decide)).1
  have hl : lv_has ls 2 [(0, .ref (ad7 0 0)), (1, .int a1)] := by rw [e8]; exact hl
  have hKA := KA_tr hKA hka (by decide)
  have hm := nadd hm hem
  have hn := nadd hn hen
  refine lv_aload_n hx hb dX5_hasFailed_4 rfl (lv_at hl 0 rfl) ?_
  refine va_get (D := D) (ci := 6) (C := RX5) (T := TX5) (N := 8) hx hb hts iuX5 hown hK.1 (WW_one hR (f := 0) (i := 0) rfl) 0 rfl rfl 0 (by decide) (hts _ q_164) (fun _ h9 => h9) rfl dX5_hasFailed_5 ?_
  refine lv_iload_n hx hb dX5_hasFailed_8 rfl (lv_at hl 1 rfl) ?_
  obtain ⟨g9, hf⟩ := gd_of hf
  refine va_aldq (C := RX0) hx hb hK.1 (WW_one hR (f := 1) (i := 0) rfl) 0 3 rfl rfl g9 dX5_hasFailed_9 ?_
  refine va_getN (D := D) (ci := 1) (C := RX0) (T := TX0) (N := 8) hx hb hts iuX0 hown hK.1 (WW_one hR (f := 2) (i := a1.toNatClampNeg) (vin_lt g9)) 0 rfl rfl 3 (by decide) (nw_f hK.2 q_105) (fun _ h9 => h9) rfl dX5_hasFailed_10 ?_
  obtain ⟨g10, hf⟩ := gd_of hf
  cases hf
  exact retx_z g10 hC hKA hLX hR hS (nfin hm) (nfin hn) dX5_hasFailed_13
def fX5_position (σ : St) (a1 : Int32) (a2 : Int32) : Option ((XO (Int32 × St)) × Nat × Nat) := xb (fX5_demandMember σ a1) (fun q1 => xb (fX5_demandProduct q1 a2) (fun q9 => gd (vin a1 5) (gd (vin a2 3) (some (.inr (gI q9 4 a1.toNatClampNeg a2.toNatClampNeg, q9), 0, 0)))))
set_option maxHeartbeats 4000000 in
set_option maxRecDepth 100000 in
theorem mX5_position (l : Launch) (hst : l.stackTraces = false) (D : va_G) (dA : Nat → ClassId) (ad : Nat → Nat → Nat) (σ : St) (sz x mi : Nat) (a1 : Int32) (a2 : Int32) (o : XO (Int32 × St)) (mc ms : Nat) (hf : fX5_position σ a1 a2 = some (o, mc, ms)) : vx_Met l yX5_position (WSy yX5_position cX5_position 3 (some .int)) ({ frames := 8, cells := mc, slots := ms, locals := 132 } : Room) (va_Pc [.ref (ad 0 0), .int a1, .int a2] (PreA D dA ad σ x mi sz)) (QXi o D dA [] ad σ x (WA ad (cvC σ) sz)) (XXC o D dA [] ad σ x (WA ad (cvC σ) sz)) mc ms (WA ad (cvC σ) sz) := by
  refine metx_of (by decide) (Nat.le_of_ble_eq_true rfl) ?_
  intro p e s m below meth c ls hC hE hB hl
  obtain ⟨rfl, hR, hK, hX, hLX⟩ := hB
  have hA : ∀ q : Nat, s.heap.size ≤ q → WA ad (cvC σ) s.heap.size q := fun q h => Or.inr h
  have hR := WW_fit (B := WA ad (cvC σ) s.heap.size) hR (fun f i h => WA_in h)
  have hS : va_S (WA ad (cvC σ) s.heap.size) s.heap s.heap [] := va_S.rf
  generalize WA ad (cvC σ) s.heap.size = A0 at hA hR hS hX ⊢
  have hC : CTX p s m _ meth c cX5_position 3 RX5 (some .int) := hC
  obtain ⟨hx, hb, hml, hown, hts, hr, hlk⟩ := id hC
  have hl : lv_has ls 3 [(0, .ref (ad 0 0)), (1, .int a1), (2, .int a2)] := hl
  have hKA : KA [] ad ad σ σ := KA_rf _ _ _
  have hm : mc = 0 + mc := (Nat.zero_add mc).symm
  have hn : ms = 0 + ms := (Nat.zero_add ms).symm
  unfold fX5_position at hf
  refine lv_iload_n hx hb dX5_position_0 rfl (lv_at hl 1 rfl) ?_
  rcases xb_of hf with ⟨e2, m3, n4, hcq1, rfl, hem, hen⟩ | ⟨q1, m3, n4, m5, n6, hcq1, hf, hem, hen⟩
  · refine kcx_v (vx_runS (As := [.int a1]) (rest := []) ⟨hx, hb, hml, hown, hts⟩ (mX5_demandMember l hst D dA ad σ _ x mi a1 (.inl e2) m3 n4 hcq1) (va_cwS 1 hts gX5_73 rfl rfl rfl (by decide +kernel) ⟨Nat.le_of_ble_eq_true rfl, Nat.le_of_ble_eq_true rfl⟩) (preSA_of hA hR hS hK hX hLX _) rfl rfl hl.1 rfl (lv_room (Nat.le_of_ble_eq_true rfl)) dX5_position_1 ⟨nleq hm hem, nleq hn hen⟩) hA hR hS (fun k σ' ad' H1 locs1 E ce q9 eo hEk hka hLX hR hS h1 h2 h3 => ?_) (fun _ _ _ _ eo => nomatch eo)
    cases eo
    exact passx hC hE hEk (KA_tr hKA hka (by decide)) hLX hR hS h1 h2 h3 (nleq hm hem) (nleq hn hen)
  refine kcx_vR (q := q1) (vx_runS (As := [.int a1]) (rest := []) ⟨hx, hb, hml, hown, hts⟩ (mX5_demandMember l hst D dA ad σ _ x mi a1 (.inr q1) m3 n4 hcq1) (va_cwS 1 hts gX5_73 rfl rfl rfl (by decide +kernel) ⟨Nat.le_of_ble_eq_true rfl, Nat.le_of_ble_eq_true rfl⟩) (preSA_of hA hR hS hK hX hLX _) rfl rfl hl.1 rfl (lv_room (Nat.le_of_ble_eq_true rfl)) dX5_position_1 ⟨nle hm hem, nle hn hen⟩) hA hR hS (fun ad7 H locs hka hLX hR hS => ?_)
  have e8 := (hka 0 0 rfl (by decide)).1
  have hl : lv_has ls 3 [(0, .ref (ad7 0 0)), (1, .int a1), (2, .int a2)] := by rw [e8]; exact hl
  have hKA := KA_tr hKA hka (by decide)
  have hm := nadd hm hem
  have hn := nadd hn hen
  refine lv_iload_n hx hb dX5_position_4 rfl (lv_at hl 2 rfl) ?_
  rcases xb_of hf with ⟨e10, m11, n12, hcq9, rfl, hem, hen⟩ | ⟨q9, m11, n12, m13, n14, hcq9, hf, hem, hen⟩
  · refine kcx_v (vx_runS (As := [.int a2]) (rest := []) ⟨hx, hb, hml, hown, hts⟩ (mX5_demandProduct l hst D dA ad7 q1 _ x mi a2 (.inl e10) m11 n12 hcq9) (va_cwS 1 hts gX5_44 rfl rfl rfl (by decide +kernel) ⟨Nat.le_of_ble_eq_true rfl, Nat.le_of_ble_eq_true rfl⟩) (preSA_of hA hR hS hK hX hLX _) rfl rfl hl.1 rfl (lv_room (Nat.le_of_ble_eq_true rfl)) dX5_position_5 ⟨nleq hm hem, nleq hn hen⟩) hA hR hS (fun k σ' ad' H1 locs1 E ce q9 eo hEk hka hLX hR hS h1 h2 h3 => ?_) (fun _ _ _ _ eo => nomatch eo)
    cases eo
    exact passx hC hE hEk (KA_tr hKA hka (by decide)) hLX hR hS h1 h2 h3 (nleq hm hem) (nleq hn hen)
  refine kcx_vR (q := q9) (vx_runS (As := [.int a2]) (rest := []) ⟨hx, hb, hml, hown, hts⟩ (mX5_demandProduct l hst D dA ad7 q1 _ x mi a2 (.inr q9) m11 n12 hcq9) (va_cwS 1 hts gX5_44 rfl rfl rfl (by decide +kernel) ⟨Nat.le_of_ble_eq_true rfl, Nat.le_of_ble_eq_true rfl⟩) (preSA_of hA hR hS hK hX hLX _) rfl rfl hl.1 rfl (lv_room (Nat.le_of_ble_eq_true rfl)) dX5_position_5 ⟨nle hm hem, nle hn hen⟩) hA hR hS (fun ad15 H locs hka hLX hR hS => ?_)
  have e16 := (hka 0 0 rfl (by decide)).1
  have hl : lv_has ls 3 [(0, .ref (ad15 0 0)), (1, .int a1), (2, .int a2)] := by rw [e16]; exact hl
  have hKA := KA_tr hKA hka (by decide)
  have hm := nadd hm hem
  have hn := nadd hn hen
  refine lv_aload_n hx hb dX5_position_8 rfl (lv_at hl 0 rfl) ?_
  refine va_get (D := D) (ci := 6) (C := RX5) (T := TX5) (N := 8) hx hb hts iuX5 hown hK.1 (WW_one hR (f := 0) (i := 0) rfl) 0 rfl rfl 0 (by decide) (hts _ q_164) (fun _ h9 => h9) rfl dX5_position_9 ?_
  refine lv_iload_n hx hb dX5_position_12 rfl (lv_at hl 1 rfl) ?_
  obtain ⟨g17, hf⟩ := gd_of hf
  refine va_aldq (C := RX0) hx hb hK.1 (WW_one hR (f := 1) (i := 0) rfl) 0 3 rfl rfl g17 dX5_position_13 ?_
  refine va_getN (D := D) (ci := 1) (C := RX0) (T := TX0) (N := 8) hx hb hts iuX0 hown hK.1 (WW_one hR (f := 2) (i := a1.toNatClampNeg) (vin_lt g17)) 0 rfl rfl 6 (by decide) (nw_f hK.2 q_111) (fun _ h9 => h9) rfl dX5_position_14 ?_
  refine lv_iload_n hx hb dX5_position_17 rfl (lv_at hl 2 rfl) ?_
  obtain ⟨g18, hf⟩ := gd_of hf
  refine va_iald hx hb hK.1 (WW_one hR (f := 4) (i := a1.toNatClampNeg) (vin_lt g17)) 0 0 rfl rfl g18 dX5_position_18 ?_
  cases hf
  exact retx_i hC hKA hLX hR hS (nfin hm) (nfin hn) dX5_position_19
def fX5_cash (σ : St) (a1 : Int32) : Option ((XO (Int32 × St)) × Nat × Nat) := xb (fX5_demandMember σ a1) (fun q1 => gd (vin a1 5) (some (.inr (Int64.toInt32 (gL q1 0 a1.toNatClampNeg 0), q1), 0, 0)))
set_option maxHeartbeats 4000000 in
set_option maxRecDepth 100000 in
theorem mX5_cash (l : Launch) (hst : l.stackTraces = false) (D : va_G) (dA : Nat → ClassId) (ad : Nat → Nat → Nat) (σ : St) (sz x mi : Nat) (a1 : Int32) (o : XO (Int32 × St)) (mc ms : Nat) (hf : fX5_cash σ a1 = some (o, mc, ms)) : vx_Met l yX5_cash (WSy yX5_cash cX5_cash 2 (some .int)) ({ frames := 8, cells := mc, slots := ms, locals := 132 } : Room) (va_Pc [.ref (ad 0 0), .int a1] (PreA D dA ad σ x mi sz)) (QXi o D dA [] ad σ x (WA ad (cvC σ) sz)) (XXC o D dA [] ad σ x (WA ad (cvC σ) sz)) mc ms (WA ad (cvC σ) sz) := by
  refine metx_of (by decide) (Nat.le_of_ble_eq_true rfl) ?_
  intro p e s m below meth c ls hC hE hB hl
  obtain ⟨rfl, hR, hK, hX, hLX⟩ := hB
  have hA : ∀ q : Nat, s.heap.size ≤ q → WA ad (cvC σ) s.heap.size q := fun q h => Or.inr h
  have hR := WW_fit (B := WA ad (cvC σ) s.heap.size) hR (fun f i h => WA_in h)
  have hS : va_S (WA ad (cvC σ) s.heap.size) s.heap s.heap [] := va_S.rf
  generalize WA ad (cvC σ) s.heap.size = A0 at hA hR hS hX ⊢
  have hC : CTX p s m _ meth c cX5_cash 2 RX5 (some .int) := hC
  obtain ⟨hx, hb, hml, hown, hts, hr, hlk⟩ := id hC
  have hl : lv_has ls 2 [(0, .ref (ad 0 0)), (1, .int a1)] := hl
  have hKA : KA [] ad ad σ σ := KA_rf _ _ _
  have hm : mc = 0 + mc := (Nat.zero_add mc).symm
  have hn : ms = 0 + ms := (Nat.zero_add ms).symm
  unfold fX5_cash at hf
  refine lv_iload_n hx hb dX5_cash_0 rfl (lv_at hl 1 rfl) ?_
  rcases xb_of hf with ⟨e2, m3, n4, hcq1, rfl, hem, hen⟩ | ⟨q1, m3, n4, m5, n6, hcq1, hf, hem, hen⟩
  · refine kcx_v (vx_runS (As := [.int a1]) (rest := []) ⟨hx, hb, hml, hown, hts⟩ (mX5_demandMember l hst D dA ad σ _ x mi a1 (.inl e2) m3 n4 hcq1) (va_cwS 1 hts gX5_73 rfl rfl rfl (by decide +kernel) ⟨Nat.le_of_ble_eq_true rfl, Nat.le_of_ble_eq_true rfl⟩) (preSA_of hA hR hS hK hX hLX _) rfl rfl hl.1 rfl (lv_room (Nat.le_of_ble_eq_true rfl)) dX5_cash_1 ⟨nleq hm hem, nleq hn hen⟩) hA hR hS (fun k σ' ad' H1 locs1 E ce q9 eo hEk hka hLX hR hS h1 h2 h3 => ?_) (fun _ _ _ _ eo => nomatch eo)
    cases eo
    exact passx hC hE hEk (KA_tr hKA hka (by decide)) hLX hR hS h1 h2 h3 (nleq hm hem) (nleq hn hen)
  refine kcx_vR (q := q1) (vx_runS (As := [.int a1]) (rest := []) ⟨hx, hb, hml, hown, hts⟩ (mX5_demandMember l hst D dA ad σ _ x mi a1 (.inr q1) m3 n4 hcq1) (va_cwS 1 hts gX5_73 rfl rfl rfl (by decide +kernel) ⟨Nat.le_of_ble_eq_true rfl, Nat.le_of_ble_eq_true rfl⟩) (preSA_of hA hR hS hK hX hLX _) rfl rfl hl.1 rfl (lv_room (Nat.le_of_ble_eq_true rfl)) dX5_cash_1 ⟨nle hm hem, nle hn hen⟩) hA hR hS (fun ad7 H locs hka hLX hR hS => ?_)
  have e8 := (hka 0 0 rfl (by decide)).1
  have hl : lv_has ls 2 [(0, .ref (ad7 0 0)), (1, .int a1)] := by rw [e8]; exact hl
  have hKA := KA_tr hKA hka (by decide)
  have hm := nadd hm hem
  have hn := nadd hn hen
  refine lv_aload_n hx hb dX5_cash_4 rfl (lv_at hl 0 rfl) ?_
  refine va_get (D := D) (ci := 6) (C := RX5) (T := TX5) (N := 8) hx hb hts iuX5 hown hK.1 (WW_one hR (f := 0) (i := 0) rfl) 0 rfl rfl 0 (by decide) (hts _ q_164) (fun _ h9 => h9) rfl dX5_cash_5 ?_
  refine lv_iload_n hx hb dX5_cash_8 rfl (lv_at hl 1 rfl) ?_
  obtain ⟨g9, hf⟩ := gd_of hf
  refine va_aldq (C := RX0) hx hb hK.1 (WW_one hR (f := 1) (i := 0) rfl) 0 3 rfl rfl g9 dX5_cash_9 ?_
  refine va_getN (D := D) (ci := 1) (C := RX0) (T := TX0) (N := 8) hx hb hts iuX0 hown hK.1 (WW_one hR (f := 2) (i := a1.toNatClampNeg) (vin_lt g9)) 0 rfl rfl 0 (by decide) (nw_f hK.2 q_102) (fun _ h9 => h9) rfl dX5_cash_10 ?_
  refine lv_l2i hx hb dX5_cash_13 rfl ?_
  cases hf
  exact retx_i hC hKA hLX hR hS (nfin hm) (nfin hn) dX5_cash_14
def fX5_equity (σ : St) (a1 : Int32) : Option ((XO (Int32 × St)) × Nat × Nat) := xb (fX5_demandMember σ a1) (fun q1 => bd (fX5_equityOf q1 a1) (fun q9 => some (.inr (Int64.toInt32 q9, q1), 0, 0)))
set_option maxHeartbeats 4000000 in
set_option maxRecDepth 100000 in
theorem mX5_equity (l : Launch) (hst : l.stackTraces = false) (D : va_G) (dA : Nat → ClassId) (ad : Nat → Nat → Nat) (σ : St) (sz x mi : Nat) (a1 : Int32) (o : XO (Int32 × St)) (mc ms : Nat) (hf : fX5_equity σ a1 = some (o, mc, ms)) : vx_Met l yX5_equity (WSy yX5_equity cX5_equity 2 (some .int)) ({ frames := 8, cells := mc, slots := ms, locals := 132 } : Room) (va_Pc [.ref (ad 0 0), .int a1] (PreA D dA ad σ x mi sz)) (QXi o D dA [] ad σ x (WA ad (cvC σ) sz)) (XXC o D dA [] ad σ x (WA ad (cvC σ) sz)) mc ms (WA ad (cvC σ) sz) := by
  refine metx_of (by decide) (Nat.le_of_ble_eq_true rfl) ?_
  intro p e s m below meth c ls hC hE hB hl
  obtain ⟨rfl, hR, hK, hX, hLX⟩ := hB
  have hA : ∀ q : Nat, s.heap.size ≤ q → WA ad (cvC σ) s.heap.size q := fun q h => Or.inr h
  have hR := WW_fit (B := WA ad (cvC σ) s.heap.size) hR (fun f i h => WA_in h)
  have hS : va_S (WA ad (cvC σ) s.heap.size) s.heap s.heap [] := va_S.rf
  generalize WA ad (cvC σ) s.heap.size = A0 at hA hR hS hX ⊢
  have hC : CTX p s m _ meth c cX5_equity 2 RX5 (some .int) := hC
  obtain ⟨hx, hb, hml, hown, hts, hr, hlk⟩ := id hC
  have hl : lv_has ls 2 [(0, .ref (ad 0 0)), (1, .int a1)] := hl
  have hKA : KA [] ad ad σ σ := KA_rf _ _ _
  have hm : mc = 0 + mc := (Nat.zero_add mc).symm
  have hn : ms = 0 + ms := (Nat.zero_add ms).symm
  unfold fX5_equity at hf
  refine lv_iload_n hx hb dX5_equity_0 rfl (lv_at hl 1 rfl) ?_
  rcases xb_of hf with ⟨e2, m3, n4, hcq1, rfl, hem, hen⟩ | ⟨q1, m3, n4, m5, n6, hcq1, hf, hem, hen⟩
  · refine kcx_v (vx_runS (As := [.int a1]) (rest := []) ⟨hx, hb, hml, hown, hts⟩ (mX5_demandMember l hst D dA ad σ _ x mi a1 (.inl e2) m3 n4 hcq1) (va_cwS 1 hts gX5_73 rfl rfl rfl (by decide +kernel) ⟨Nat.le_of_ble_eq_true rfl, Nat.le_of_ble_eq_true rfl⟩) (preSA_of hA hR hS hK hX hLX _) rfl rfl hl.1 rfl (lv_room (Nat.le_of_ble_eq_true rfl)) dX5_equity_1 ⟨nleq hm hem, nleq hn hen⟩) hA hR hS (fun k σ' ad' H1 locs1 E ce q9 eo hEk hka hLX hR hS h1 h2 h3 => ?_) (fun _ _ _ _ eo => nomatch eo)
    cases eo
    exact passx hC hE hEk (KA_tr hKA hka (by decide)) hLX hR hS h1 h2 h3 (nleq hm hem) (nleq hn hen)
  refine kcx_vR (q := q1) (vx_runS (As := [.int a1]) (rest := []) ⟨hx, hb, hml, hown, hts⟩ (mX5_demandMember l hst D dA ad σ _ x mi a1 (.inr q1) m3 n4 hcq1) (va_cwS 1 hts gX5_73 rfl rfl rfl (by decide +kernel) ⟨Nat.le_of_ble_eq_true rfl, Nat.le_of_ble_eq_true rfl⟩) (preSA_of hA hR hS hK hX hLX _) rfl rfl hl.1 rfl (lv_room (Nat.le_of_ble_eq_true rfl)) dX5_equity_1 ⟨nle hm hem, nle hn hen⟩) hA hR hS (fun ad7 H locs hka hLX hR hS => ?_)
  have e8 := (hka 0 0 rfl (by decide)).1
  have hl : lv_has ls 2 [(0, .ref (ad7 0 0)), (1, .int a1)] := by rw [e8]; exact hl
  have hKA := KA_tr hKA hka (by decide)
  have hm := nadd hm hem
  have hn := nadd hn hen
  refine lv_aload_n hx hb dX5_equity_4 rfl (lv_at hl 0 rfl) ?_
  refine lv_iload_n hx hb dX5_equity_5 rfl (lv_at hl 1 rfl) ?_
  obtain ⟨q9, hcq9, hf⟩ := bd_of hf
  refine kc_l (va_runV (As := [.int a1]) (rest := []) ⟨hx, hb, hml, hown, hts⟩ (mX5_equityOf l D dA ad7 q1 _ a1 q9 hcq9) (cwV 1 hts gX5_174 rfl rfl rfl (by decide +kernel) ⟨Nat.le_of_ble_eq_true rfl, Nat.le_of_ble_eq_true rfl⟩) (preV_of hR hK (f := 0) (i := 0) rfl rfl rfl _) rfl rfl hl.1 rfl (lv_room (Nat.le_of_ble_eq_true rfl)) dX5_equity_6 ⟨nle0 hm, nle0 hn⟩) hA hR hS (fun H locs hR hS => ?_)
  refine lv_l2i hx hb dX5_equity_9 rfl ?_
  cases hf
  exact retx_i hC hKA hLX hR hS (nfin hm) (nfin hn) dX5_equity_10
def fX5_equityByTrades_L17 : Nat → St → Int32 → Int64 → Int32 → Option ((XO (Int32 × St)) × Nat × Nat)
  | 0, _, _, _, _ => none
  | n + 1, σ, v4, v2, v1 => if (nI (gN σ 1)) ≤ v4 then some (.inr (Int64.toInt32 v2, σ), 0, 0) else gd (vin v4 (gN σ 1)) (gd (lok1 σ) (bd (fX5_gainOf σ v1 v4.toNatClampNeg) (fun q14 => kst (v2 + q14) (fun x15 => kst (v4 + 1) (fun x16 => fX5_equityByTrades_L17 n σ x16 x15 v1)))))
set_option maxHeartbeats 4000000 in
set_option maxRecDepth 100000 in
theorem wX5_equityByTrades_L17 {p : Program} {l : Launch} {e : Env} {s : State} {m : MethodId} {args : Array Value} {below : List Frame} {meth : Method} {c : Code} {D : va_G} {dA : Nat → ClassId} {A0 : Nat → Prop} {x mi mc ms : Nat} {ad0 : Nat → Nat → Nat} {σ0 : St} {o : XO (Int32 × St)} (hC : CTX p s m args meth c cX5_equityByTrades 5 RX5 (some .int)) (hK : KS D dA s) (hA : ∀ q, s.heap.size ≤ q → A0 q) (hX : EXT x mi A0 s s.heap) (hE : ∀ x ∈ c.exceptionTable.toList, False) (hst : l.stackTraces = false) : ∀ (n : Nat) (H : Heap) (locs : List Loc) (ls : Array Slot) (ad : Nat → Nat → Nat) (c0 s0 mr sr : Nat) (σ : St) (v4 : Int32) (v2 : Int64) (v1 : Int32), KA [] ad0 ad σ0 σ → LX ad σ x → mc = c0 + mr → ms = s0 + sr → HC D dA A0 ad σ H → va_S A0 s.heap H locs → lv_has ls 5 [(4, .int v4), (2, .long v2), (0, .ref (ad 0 0)), (1, .int v1)] → fX5_equityByTrades_L17 n σ v4 v2 v1 = some (o, mr, sr) → W p l e ({ frames := 8, cells := mc, slots := ms, locals := 132 } : Room) s m args below meth c H locs c0 s0 (vx_MQ below (QXi o D dA [] ad0 σ0 x A0) (XXC o D dA [] ad0 σ0 x A0) args s mc ms A0) (F0 m 17 ls []) := by
  obtain ⟨hx, hb, hml, hown, hts, hr, hlk⟩ := id hC
  intro n
  induction n with
  | zero =>
    intro H locs ls ad c0 s0 mr sr σ v4 v2 v1 hKA hLX hm hn hR hS hl hf
    rw [fX5_equityByTrades_L17.eq_1] at hf
    cases hf
  | succ n ih =>
    intro H locs ls ad c0 s0 mr sr σ v4 v2 v1 hKA hLX hm hn hR hS hl hf
    rw [fX5_equityByTrades_L17.eq_2] at hf
    refine lv_iload hx hb dX5_equityByTrades_17 (lv_at hl 0 rfl) ?_
    refine lv_aload_n hx hb dX5_equityByTrades_19 rfl (lv_at hl 2 rfl) ?_
    refine va_get (D := D) (ci := 6) (C := RX5) (T := TX5) (N := 8) hx hb hts iuX5 hown hK.1 (WW_one hR (f := 0) (i := 0) rfl) 0 rfl rfl 4 (by decide) (hts _ q_168) (fun _ h9 => h9) rfl dX5_equityByTrades_20 ?_
    refine ls_size14 (rest := [.int v4]) hC hK hA hR hS hl q_197 ⟨Nat.le_of_ble_eq_true rfl, Nat.le_of_ble_eq_true rfl⟩ (lv_room (Nat.le_of_ble_eq_true rfl)) ⟨nle0 hm, nle0 hn⟩ dX5_equityByTrades_23 (fun H locs hR hS => ?_)
    refine lv_icmp_ge (tgt := 55) hx hb dX5_equityByTrades_26 (by decide) (fun c11 => ?_) (fun c11 => ?_)
    · have hf := if_of_pos hf c11
      refine lv_lload_n hx hb dX5_equityByTrades_55 rfl (lv_at hl 1 rfl) ?_
      refine lv_l2i hx hb dX5_equityByTrades_56 rfl ?_
      cases hf
      exact retx_i hC hKA hLX hR hS (nfin hm) (nfin hn) dX5_equityByTrades_57
    · have hf := if_of_neg hf c11
      refine lv_lload_n hx hb dX5_equityByTrades_29 rfl (lv_at hl 1 rfl) ?_
      refine lv_aload_n hx hb dX5_equityByTrades_30 rfl (lv_at hl 2 rfl) ?_
      refine lv_iload_n hx hb dX5_equityByTrades_31 rfl (lv_at hl 3 rfl) ?_
      refine lv_aload_n hx hb dX5_equityByTrades_32 rfl (lv_at hl 2 rfl) ?_
      refine va_get (D := D) (ci := 6) (C := RX5) (T := TX5) (N := 8) hx hb hts iuX5 hown hK.1 (WW_one hR (f := 0) (i := 0) rfl) 0 rfl rfl 4 (by decide) (hts _ q_168) (fun _ h9 => h9) rfl dX5_equityByTrades_33 ?_
      refine lv_iload hx hb dX5_equityByTrades_36 (lv_at hl 0 rfl) ?_
      obtain ⟨g12, hf⟩ := gd_of hf
      obtain ⟨g13, hf⟩ := gd_of hf
      refine ls_get14 (rest := [.int v1, .ref (ad 0 0), .long v2]) hC hK hA hR hS hl g12 (vin_mono g12 g13.1) (Nat.lt_of_le_of_lt g13.1 g13.2.2) q_265 ⟨Nat.le_of_ble_eq_true rfl, Nat.le_of_ble_eq_true rfl⟩ (lv_room (Nat.le_of_ble_eq_true rfl)) ⟨nle0 hm, nle0 hn⟩ dX5_equityByTrades_38 (fun H locs hR hS => ?_)
      refine cast_of hx hb hown (hts _ q_529) hK (WW_at hR (f := 18) (i := v4.toNatClampNeg) (Nat.lt_of_lt_of_le (vin_lt g12) g13.2.1)) (ci := 5) rfl rfl dX5_equityByTrades_41 ?_
      obtain ⟨q14, hcq14, hf⟩ := bd_of hf
      refine kc_l (va_runV (As := [.int v1, .ref (ad 18 v4.toNatClampNeg)]) (rest := [.long v2]) ⟨hx, hb, hml, hown, hts⟩ (mX5_gainOf l D dA ad σ _ v1 v4.toNatClampNeg q14 hcq14 (Nat.lt_of_lt_of_le (vin_lt g12) g13.2.1)) (cwV 2 hts gX5_182 rfl rfl rfl (by decide +kernel) ⟨Nat.le_of_ble_eq_true rfl, Nat.le_of_ble_eq_true rfl⟩) (preV_of hR hK (f := 0) (i := 0) rfl rfl rfl _) rfl rfl hl.1 rfl (lv_room (Nat.le_of_ble_eq_true rfl)) dX5_equityByTrades_44 ⟨nle0 hm, nle0 hn⟩) hA hR hS (fun H locs hR hS => ?_)
      refine lv_ladd hx hb dX5_equityByTrades_47 ?_
      refine lv_topl (fun x15 hx15 => ?_)
      have hf := kst_eq hx15 hf
      refine lv_lstore_n (lv' := [(2, .long x15), (4, .int v4), (0, .ref (ad 0 0)), (1, .int v1)]) hx hb dX5_equityByTrades_48 rfl hl (by decide) rfl (fun ls hl => ?_)
      obtain ⟨x16, hx16⟩ : ∃ y : Int32, y = v4 + 1 := ⟨_, rfl⟩
      have hf := kst_eq hx16 hf
      refine lv_iinc (v := x16) (lv' := [(4, .int x16), (2, .long x15), (0, .ref (ad 0 0)), (1, .int v1)]) hx hb dX5_equityByTrades_49 hl (k := 1) rfl (by rw [hx16]; rfl) (by decide) rfl (fun ls hl => ?_)
      refine lv_goto (tgt := 17) hx hb dX5_equityByTrades_52 (by decide) ?_
      exact ih _ _ _ ad _ _ _ _ σ x16 x15 v1 hKA hLX hm hn hR hS (lv_sub hl [0, 1, 2, 3] rfl) hf
def fX5_equityByTrades (σ : St) (a1 : Int32) : Option ((XO (Int32 × St)) × Nat × Nat) := xb (fX5_demandMember σ a1) (fun q1 => gd (vin a1 5) (kst (gL q1 2 a1.toNatClampNeg 0) (fun x10 => fX5_equityByTrades_L17 60000 q1 0 x10 a1)))
set_option maxHeartbeats 4000000 in
set_option maxRecDepth 100000 in
theorem mX5_equityByTrades (l : Launch) (hst : l.stackTraces = false) (D : va_G) (dA : Nat → ClassId) (ad : Nat → Nat → Nat) (σ : St) (sz x mi : Nat) (a1 : Int32) (o : XO (Int32 × St)) (mc ms : Nat) (hf : fX5_equityByTrades σ a1 = some (o, mc, ms)) : vx_Met l yX5_equityByTrades (WSy yX5_equityByTrades cX5_equityByTrades 5 (some .int)) ({ frames := 8, cells := mc, slots := ms, locals := 132 } : Room) (va_Pc [.ref (ad 0 0), .int a1] (PreA D dA ad σ x mi sz)) (QXi o D dA [] ad σ x (WA ad (cvC σ) sz)) (XXC o D dA [] ad σ x (WA ad (cvC σ) sz)) mc ms (WA ad (cvC σ) sz) := by
  refine metx_of (by decide) (Nat.le_of_ble_eq_true rfl) ?_
  intro p e s m below meth c ls hC hE hB hl
  obtain ⟨rfl, hR, hK, hX, hLX⟩ := hB
  have hA : ∀ q : Nat, s.heap.size ≤ q → WA ad (cvC σ) s.heap.size q := fun q h => Or.inr h
  have hR := WW_fit (B := WA ad (cvC σ) s.heap.size) hR (fun f i h => WA_in h)
  have hS : va_S (WA ad (cvC σ) s.heap.size) s.heap s.heap [] := va_S.rf
  generalize WA ad (cvC σ) s.heap.size = A0 at hA hR hS hX ⊢
  have hC : CTX p s m _ meth c cX5_equityByTrades 5 RX5 (some .int) := hC
  obtain ⟨hx, hb, hml, hown, hts, hr, hlk⟩ := id hC
  have hl : lv_has ls 5 [(0, .ref (ad 0 0)), (1, .int a1)] := hl
  have hKA : KA [] ad ad σ σ := KA_rf _ _ _
  have hm : mc = 0 + mc := (Nat.zero_add mc).symm
  have hn : ms = 0 + ms := (Nat.zero_add ms).symm
  unfold fX5_equityByTrades at hf
  refine lv_iload_n hx hb dX5_equityByTrades_0 rfl (lv_at hl 1 rfl) ?_
  rcases xb_of hf with ⟨e2, m3, n4, hcq1, rfl, hem, hen⟩ | ⟨q1, m3, n4, m5, n6, hcq1, hf, hem, hen⟩
  · refine kcx_v (vx_runS (As := [.int a1]) (rest := []) ⟨hx, hb, hml, hown, hts⟩ (mX5_demandMember l hst D dA ad σ _ x mi a1 (.inl e2) m3 n4 hcq1) (va_cwS 1 hts gX5_73 rfl rfl rfl (by decide +kernel) ⟨Nat.le_of_ble_eq_true rfl, Nat.le_of_ble_eq_true rfl⟩) (preSA_of hA hR hS hK hX hLX _) rfl rfl hl.1 rfl (lv_room (Nat.le_of_ble_eq_true rfl)) dX5_equityByTrades_1 ⟨nleq hm hem, nleq hn hen⟩) hA hR hS (fun k σ' ad' H1 locs1 E ce q9 eo hEk hka hLX hR hS h1 h2 h3 => ?_) (fun _ _ _ _ eo => nomatch eo)
    cases eo
    exact passx hC hE hEk (KA_tr hKA hka (by decide)) hLX hR hS h1 h2 h3 (nleq hm hem) (nleq hn hen)
  refine kcx_vR (q := q1) (vx_runS (As := [.int a1]) (rest := []) ⟨hx, hb, hml, hown, hts⟩ (mX5_demandMember l hst D dA ad σ _ x mi a1 (.inr q1) m3 n4 hcq1) (va_cwS 1 hts gX5_73 rfl rfl rfl (by decide +kernel) ⟨Nat.le_of_ble_eq_true rfl, Nat.le_of_ble_eq_true rfl⟩) (preSA_of hA hR hS hK hX hLX _) rfl rfl hl.1 rfl (lv_room (Nat.le_of_ble_eq_true rfl)) dX5_equityByTrades_1 ⟨nle hm hem, nle hn hen⟩) hA hR hS (fun ad7 H locs hka hLX hR hS => ?_)
  have e8 := (hka 0 0 rfl (by decide)).1
  have hl : lv_has ls 5 [(0, .ref (ad7 0 0)), (1, .int a1)] := by rw [e8]; exact hl
  have hKA := KA_tr hKA hka (by decide)
  have hm := nadd hm hem
  have hn := nadd hn hen
  refine lv_aload_n hx hb dX5_equityByTrades_4 rfl (lv_at hl 0 rfl) ?_
  refine va_get (D := D) (ci := 6) (C := RX5) (T := TX5) (N := 8) hx hb hts iuX5 hown hK.1 (WW_one hR (f := 0) (i := 0) rfl) 0 rfl rfl 0 (by decide) (hts _ q_164) (fun _ h9 => h9) rfl dX5_equityByTrades_5 ?_
  refine lv_iload_n hx hb dX5_equityByTrades_8 rfl (lv_at hl 1 rfl) ?_
  obtain ⟨g9, hf⟩ := gd_of hf
  refine va_aldq (C := RX0) hx hb hK.1 (WW_one hR (f := 1) (i := 0) rfl) 0 3 rfl rfl g9 dX5_equityByTrades_9 ?_
  refine va_getN (D := D) (ci := 1) (C := RX0) (T := TX0) (N := 8) hx hb hts iuX0 hown hK.1 (WW_one hR (f := 2) (i := a1.toNatClampNeg) (vin_lt g9)) 0 rfl rfl 2 (by decide) (nw_f hK.2 q_104) (fun _ h9 => h9) rfl dX5_equityByTrades_10 ?_
  refine lv_topl (fun x10 hx10 => ?_)
  have hf := kst_eq hx10 hf
  refine lv_lstore_n (lv' := [(2, .long x10), (0, .ref (ad7 0 0)), (1, .int a1)]) hx hb dX5_equityByTrades_13 rfl hl (by decide) rfl (fun ls hl => ?_)
  refine lv_iconst (v := 0) hx hb dX5_equityByTrades_14 (by decide) ?_
  refine lv_istore (lv' := [(4, .int 0), (2, .long x10), (0, .ref (ad7 0 0)), (1, .int a1)]) hx hb dX5_equityByTrades_15 hl (by decide) rfl (fun ls hl => ?_)
  exact wX5_equityByTrades_L17 hC hK hA hX hE hst 60000 _ _ _ ad7 _ _ _ _ q1 0 x10 a1 hKA hLX hm hn hR hS (lv_sub hl [0, 1, 2, 3] rfl) hf
def fX5_margin (σ : St) (a1 : Int32) : Option ((XO (Int32 × St)) × Nat × Nat) := xb (fX5_demandMember σ a1) (fun q1 => bd (fX5_marginOf q1 a1) (fun q9 => gd (sameN q9.2 q1) (some (.inr (Int64.toInt32 q9.1, q9.2), 0, 0))))
set_option maxHeartbeats 4000000 in
set_option maxRecDepth 100000 in
theorem mX5_margin (l : Launch) (hst : l.stackTraces = false) (D : va_G) (dA : Nat → ClassId) (ad : Nat → Nat → Nat) (σ : St) (sz x mi : Nat) (a1 : Int32) (o : XO (Int32 × St)) (mc ms : Nat) (hf : fX5_margin σ a1 = some (o, mc, ms)) : vx_Met l yX5_margin (WSy yX5_margin cX5_margin 2 (some .int)) ({ frames := 8, cells := mc, slots := ms, locals := 132 } : Room) (va_Pc [.ref (ad 0 0), .int a1] (PreA D dA ad σ x mi sz)) (QXi o D dA [] ad σ x (WA ad (cvC σ) sz)) (XXC o D dA [] ad σ x (WA ad (cvC σ) sz)) mc ms (WA ad (cvC σ) sz) := by
  refine metx_of (by decide) (Nat.le_of_ble_eq_true rfl) ?_
  intro p e s m below meth c ls hC hE hB hl
  obtain ⟨rfl, hR, hK, hX, hLX⟩ := hB
  have hA : ∀ q : Nat, s.heap.size ≤ q → WA ad (cvC σ) s.heap.size q := fun q h => Or.inr h
  have hR := WW_fit (B := WA ad (cvC σ) s.heap.size) hR (fun f i h => WA_in h)
  have hS : va_S (WA ad (cvC σ) s.heap.size) s.heap s.heap [] := va_S.rf
  generalize WA ad (cvC σ) s.heap.size = A0 at hA hR hS hX ⊢
  have hC : CTX p s m _ meth c cX5_margin 2 RX5 (some .int) := hC
  obtain ⟨hx, hb, hml, hown, hts, hr, hlk⟩ := id hC
  have hl : lv_has ls 2 [(0, .ref (ad 0 0)), (1, .int a1)] := hl
  have hKA : KA [] ad ad σ σ := KA_rf _ _ _
  have hm : mc = 0 + mc := (Nat.zero_add mc).symm
  have hn : ms = 0 + ms := (Nat.zero_add ms).symm
  unfold fX5_margin at hf
  refine lv_iload_n hx hb dX5_margin_0 rfl (lv_at hl 1 rfl) ?_
  rcases xb_of hf with ⟨e2, m3, n4, hcq1, rfl, hem, hen⟩ | ⟨q1, m3, n4, m5, n6, hcq1, hf, hem, hen⟩
  · refine kcx_v (vx_runS (As := [.int a1]) (rest := []) ⟨hx, hb, hml, hown, hts⟩ (mX5_demandMember l hst D dA ad σ _ x mi a1 (.inl e2) m3 n4 hcq1) (va_cwS 1 hts gX5_73 rfl rfl rfl (by decide +kernel) ⟨Nat.le_of_ble_eq_true rfl, Nat.le_of_ble_eq_true rfl⟩) (preSA_of hA hR hS hK hX hLX _) rfl rfl hl.1 rfl (lv_room (Nat.le_of_ble_eq_true rfl)) dX5_margin_1 ⟨nleq hm hem, nleq hn hen⟩) hA hR hS (fun k σ' ad' H1 locs1 E ce q9 eo hEk hka hLX hR hS h1 h2 h3 => ?_) (fun _ _ _ _ eo => nomatch eo)
    cases eo
    exact passx hC hE hEk (KA_tr hKA hka (by decide)) hLX hR hS h1 h2 h3 (nleq hm hem) (nleq hn hen)
  refine kcx_vR (q := q1) (vx_runS (As := [.int a1]) (rest := []) ⟨hx, hb, hml, hown, hts⟩ (mX5_demandMember l hst D dA ad σ _ x mi a1 (.inr q1) m3 n4 hcq1) (va_cwS 1 hts gX5_73 rfl rfl rfl (by decide +kernel) ⟨Nat.le_of_ble_eq_true rfl, Nat.le_of_ble_eq_true rfl⟩) (preSA_of hA hR hS hK hX hLX _) rfl rfl hl.1 rfl (lv_room (Nat.le_of_ble_eq_true rfl)) dX5_margin_1 ⟨nle hm hem, nle hn hen⟩) hA hR hS (fun ad7 H locs hka hLX hR hS => ?_)
  have e8 := (hka 0 0 rfl (by decide)).1
  have hl : lv_has ls 2 [(0, .ref (ad7 0 0)), (1, .int a1)] := by rw [e8]; exact hl
  have hKA := KA_tr hKA hka (by decide)
  have hm := nadd hm hem
  have hn := nadd hn hen
  refine lv_aload_n hx hb dX5_margin_4 rfl (lv_at hl 0 rfl) ?_
  refine lv_iload_n hx hb dX5_margin_5 rfl (lv_at hl 1 rfl) ?_
  obtain ⟨q9, hcq9, hf⟩ := bd_of hf
  obtain ⟨g10, hf⟩ := gd_of hf
  refine kc_l (va_runV (As := [.int a1]) (rest := []) ⟨hx, hb, hml, hown, hts⟩ (mX5_marginOf l D dA ad7 q1 _ a1 q9.1 q9.2 hcq9) (cwV 1 hts gX5_186 rfl rfl rfl (by decide +kernel) ⟨Nat.le_of_ble_eq_true rfl, Nat.le_of_ble_eq_true rfl⟩) (preV_of hR hK (f := 0) (i := 0) rfl rfl rfl _) rfl rfl hl.1 rfl (lv_room (Nat.le_of_ble_eq_true rfl)) dX5_margin_6 ⟨nle0 hm, nle0 hn⟩) hA hR hS (fun H locs hR hS => ?_)
  have hKA := KA_same hKA g10
  have hLX := LX_same hLX g10
  refine lv_l2i hx hb dX5_margin_9 rfl ?_
  cases hf
  exact retx_i hC hKA hLX hR hS (nfin hm) (nfin hn) dX5_margin_10
def fX5_haircut (σ : St) (a1 : Int32) : Option ((XO (Int32 × St)) × Nat × Nat) := xb (fX5_demandKind σ a1) (fun q1 => gd (vin a1 2) (some (.inr (gI q1 6 a1.toNatClampNeg 0, q1), 0, 0)))
set_option maxHeartbeats 4000000 in
set_option maxRecDepth 100000 in
theorem mX5_haircut (l : Launch) (hst : l.stackTraces = false) (D : va_G) (dA : Nat → ClassId) (ad : Nat → Nat → Nat) (σ : St) (sz x mi : Nat) (a1 : Int32) (o : XO (Int32 × St)) (mc ms : Nat) (hf : fX5_haircut σ a1 = some (o, mc, ms)) : vx_Met l yX5_haircut (WSy yX5_haircut cX5_haircut 2 (some .int)) ({ frames := 8, cells := mc, slots := ms, locals := 132 } : Room) (va_Pc [.ref (ad 0 0), .int a1] (PreA D dA ad σ x mi sz)) (QXi o D dA [] ad σ x (WA ad (cvC σ) sz)) (XXC o D dA [] ad σ x (WA ad (cvC σ) sz)) mc ms (WA ad (cvC σ) sz) := by
  refine metx_of (by decide) (Nat.le_of_ble_eq_true rfl) ?_
  intro p e s m below meth c ls hC hE hB hl
  obtain ⟨rfl, hR, hK, hX, hLX⟩ := hB
  have hA : ∀ q : Nat, s.heap.size ≤ q → WA ad (cvC σ) s.heap.size q := fun q h => Or.inr h
  have hR := WW_fit (B := WA ad (cvC σ) s.heap.size) hR (fun f i h => WA_in h)
  have hS : va_S (WA ad (cvC σ) s.heap.size) s.heap s.heap [] := va_S.rf
  generalize WA ad (cvC σ) s.heap.size = A0 at hA hR hS hX ⊢
  have hC : CTX p s m _ meth c cX5_haircut 2 RX5 (some .int) := hC
  obtain ⟨hx, hb, hml, hown, hts, hr, hlk⟩ := id hC
  have hl : lv_has ls 2 [(0, .ref (ad 0 0)), (1, .int a1)] := hl
  have hKA : KA [] ad ad σ σ := KA_rf _ _ _
  have hm : mc = 0 + mc := (Nat.zero_add mc).symm
  have hn : ms = 0 + ms := (Nat.zero_add ms).symm
  unfold fX5_haircut at hf
  refine lv_iload_n hx hb dX5_haircut_0 rfl (lv_at hl 1 rfl) ?_
  rcases xb_of hf with ⟨e2, m3, n4, hcq1, rfl, hem, hen⟩ | ⟨q1, m3, n4, m5, n6, hcq1, hf, hem, hen⟩
  · refine kcx_v (vx_runS (As := [.int a1]) (rest := []) ⟨hx, hb, hml, hown, hts⟩ (mX5_demandKind l hst D dA ad σ _ x mi a1 (.inl e2) m3 n4 hcq1) (va_cwS 1 hts gX5_60 rfl rfl rfl (by decide +kernel) ⟨Nat.le_of_ble_eq_true rfl, Nat.le_of_ble_eq_true rfl⟩) (preSA_of hA hR hS hK hX hLX _) rfl rfl hl.1 rfl (lv_room (Nat.le_of_ble_eq_true rfl)) dX5_haircut_1 ⟨nleq hm hem, nleq hn hen⟩) hA hR hS (fun k σ' ad' H1 locs1 E ce q9 eo hEk hka hLX hR hS h1 h2 h3 => ?_) (fun _ _ _ _ eo => nomatch eo)
    cases eo
    exact passx hC hE hEk (KA_tr hKA hka (by decide)) hLX hR hS h1 h2 h3 (nleq hm hem) (nleq hn hen)
  refine kcx_vR (q := q1) (vx_runS (As := [.int a1]) (rest := []) ⟨hx, hb, hml, hown, hts⟩ (mX5_demandKind l hst D dA ad σ _ x mi a1 (.inr q1) m3 n4 hcq1) (va_cwS 1 hts gX5_60 rfl rfl rfl (by decide +kernel) ⟨Nat.le_of_ble_eq_true rfl, Nat.le_of_ble_eq_true rfl⟩) (preSA_of hA hR hS hK hX hLX _) rfl rfl hl.1 rfl (lv_room (Nat.le_of_ble_eq_true rfl)) dX5_haircut_1 ⟨nle hm hem, nle hn hen⟩) hA hR hS (fun ad7 H locs hka hLX hR hS => ?_)
  have e8 := (hka 0 0 rfl (by decide)).1
  have hl : lv_has ls 2 [(0, .ref (ad7 0 0)), (1, .int a1)] := by rw [e8]; exact hl
  have hKA := KA_tr hKA hka (by decide)
  have hm := nadd hm hem
  have hn := nadd hn hen
  refine lv_aload_n hx hb dX5_haircut_4 rfl (lv_at hl 0 rfl) ?_
  refine va_get (D := D) (ci := 6) (C := RX5) (T := TX5) (N := 8) hx hb hts iuX5 hown hK.1 (WW_one hR (f := 0) (i := 0) rfl) 0 rfl rfl 2 (by decide) (hts _ q_166) (fun _ h9 => h9) rfl dX5_haircut_5 ?_
  refine lv_iload_n hx hb dX5_haircut_8 rfl (lv_at hl 1 rfl) ?_
  obtain ⟨g9, hf⟩ := gd_of hf
  refine va_aldq (C := RX1) hx hb hK.1 (WW_one hR (f := 9) (i := 0) rfl) 0 5 rfl rfl g9 dX5_haircut_9 ?_
  refine va_getN (D := D) (ci := 2) (C := RX1) (T := TX1) (N := 2) hx hb hts iuX1 hown hK.1 (WW_one hR (f := 10) (i := a1.toNatClampNeg) (vin_lt g9)) 0 rfl rfl 1 (by decide) (nw_f hK.2 q_158) (fun _ h9 => h9) rfl dX5_haircut_10 ?_
  cases hf
  exact retx_i hC hKA hLX hR hS (nfin hm) (nfin hn) dX5_haircut_13
def fX5_collateral (σ : St) (a1 : Int32) : Option ((XO (Int32 × St)) × Nat × Nat) := xb (fX5_demandMember σ a1) (fun q1 => bd (fX5_collateralOf q1 a1) (fun q9 => some (.inr (Int64.toInt32 q9, q1), 0, 0)))
set_option maxHeartbeats 4000000 in
set_option maxRecDepth 100000 in
theorem mX5_collateral (l : Launch) (hst : l.stackTraces = false) (D : va_G) (dA : Nat → ClassId) (ad : Nat → Nat → Nat) (σ : St) (sz x mi : Nat) (a1 : Int32) (o : XO (Int32 × St)) (mc ms : Nat) (hf : fX5_collateral σ a1 = some (o, mc, ms)) : vx_Met l yX5_collateral (WSy yX5_collateral cX5_collateral 2 (some .int)) ({ frames := 8, cells := mc, slots := ms, locals := 132 } : Room) (va_Pc [.ref (ad 0 0), .int a1] (PreA D dA ad σ x mi sz)) (QXi o D dA [] ad σ x (WA ad (cvC σ) sz)) (XXC o D dA [] ad σ x (WA ad (cvC σ) sz)) mc ms (WA ad (cvC σ) sz) := by
  refine metx_of (by decide) (Nat.le_of_ble_eq_true rfl) ?_
  intro p e s m below meth c ls hC hE hB hl
  obtain ⟨rfl, hR, hK, hX, hLX⟩ := hB
  have hA : ∀ q : Nat, s.heap.size ≤ q → WA ad (cvC σ) s.heap.size q := fun q h => Or.inr h
  have hR := WW_fit (B := WA ad (cvC σ) s.heap.size) hR (fun f i h => WA_in h)
  have hS : va_S (WA ad (cvC σ) s.heap.size) s.heap s.heap [] := va_S.rf
  generalize WA ad (cvC σ) s.heap.size = A0 at hA hR hS hX ⊢
  have hC : CTX p s m _ meth c cX5_collateral 2 RX5 (some .int) := hC
  obtain ⟨hx, hb, hml, hown, hts, hr, hlk⟩ := id hC
  have hl : lv_has ls 2 [(0, .ref (ad 0 0)), (1, .int a1)] := hl
  have hKA : KA [] ad ad σ σ := KA_rf _ _ _
  have hm : mc = 0 + mc := (Nat.zero_add mc).symm
  have hn : ms = 0 + ms := (Nat.zero_add ms).symm
  unfold fX5_collateral at hf
  refine lv_iload_n hx hb dX5_collateral_0 rfl (lv_at hl 1 rfl) ?_
  rcases xb_of hf with ⟨e2, m3, n4, hcq1, rfl, hem, hen⟩ | ⟨q1, m3, n4, m5, n6, hcq1, hf, hem, hen⟩
  · refine kcx_v (vx_runS (As := [.int a1]) (rest := []) ⟨hx, hb, hml, hown, hts⟩ (mX5_demandMember l hst D dA ad σ _ x mi a1 (.inl e2) m3 n4 hcq1) (va_cwS 1 hts gX5_73 rfl rfl rfl (by decide +kernel) ⟨Nat.le_of_ble_eq_true rfl, Nat.le_of_ble_eq_true rfl⟩) (preSA_of hA hR hS hK hX hLX _) rfl rfl hl.1 rfl (lv_room (Nat.le_of_ble_eq_true rfl)) dX5_collateral_1 ⟨nleq hm hem, nleq hn hen⟩) hA hR hS (fun k σ' ad' H1 locs1 E ce q9 eo hEk hka hLX hR hS h1 h2 h3 => ?_) (fun _ _ _ _ eo => nomatch eo)
    cases eo
    exact passx hC hE hEk (KA_tr hKA hka (by decide)) hLX hR hS h1 h2 h3 (nleq hm hem) (nleq hn hen)
  refine kcx_vR (q := q1) (vx_runS (As := [.int a1]) (rest := []) ⟨hx, hb, hml, hown, hts⟩ (mX5_demandMember l hst D dA ad σ _ x mi a1 (.inr q1) m3 n4 hcq1) (va_cwS 1 hts gX5_73 rfl rfl rfl (by decide +kernel) ⟨Nat.le_of_ble_eq_true rfl, Nat.le_of_ble_eq_true rfl⟩) (preSA_of hA hR hS hK hX hLX _) rfl rfl hl.1 rfl (lv_room (Nat.le_of_ble_eq_true rfl)) dX5_collateral_1 ⟨nle hm hem, nle hn hen⟩) hA hR hS (fun ad7 H locs hka hLX hR hS => ?_)
  have e8 := (hka 0 0 rfl (by decide)).1
  have hl : lv_has ls 2 [(0, .ref (ad7 0 0)), (1, .int a1)] := by rw [e8]; exact hl
  have hKA := KA_tr hKA hka (by decide)
  have hm := nadd hm hem
  have hn := nadd hn hen
  refine lv_aload_n hx hb dX5_collateral_4 rfl (lv_at hl 0 rfl) ?_
  refine lv_iload_n hx hb dX5_collateral_5 rfl (lv_at hl 1 rfl) ?_
  obtain ⟨q9, hcq9, hf⟩ := bd_of hf
  refine kc_l (va_runV (As := [.int a1]) (rest := []) ⟨hx, hb, hml, hown, hts⟩ (mX5_collateralOf l D dA ad7 q1 _ a1 q9 hcq9) (cwV 1 hts gX5_189 rfl rfl rfl (by decide +kernel) ⟨Nat.le_of_ble_eq_true rfl, Nat.le_of_ble_eq_true rfl⟩) (preV_of hR hK (f := 0) (i := 0) rfl rfl rfl _) rfl rfl hl.1 rfl (lv_room (Nat.le_of_ble_eq_true rfl)) dX5_collateral_6 ⟨nle0 hm, nle0 hn⟩) hA hR hS (fun H locs hR hS => ?_)
  refine lv_l2i hx hb dX5_collateral_9 rfl ?_
  cases hf
  exact retx_i hC hKA hLX hR hS (nfin hm) (nfin hn) dX5_collateral_10
def fX5_free (σ : St) (a1 : Int32) : Option ((XO (Int32 × St)) × Nat × Nat) := xb (fX5_demandMember σ a1) (fun q1 => bd (fX5_freeOf q1 a1) (fun q9 => gd (sameN q9.2 q1) (some (.inr (Int64.toInt32 q9.1, q9.2), 0, 0))))
set_option maxHeartbeats 4000000 in
set_option maxRecDepth 100000 in
theorem mX5_free (l : Launch) (hst : l.stackTraces = false) (D : va_G) (dA : Nat → ClassId) (ad : Nat → Nat → Nat) (σ : St) (sz x mi : Nat) (a1 : Int32) (o : XO (Int32 × St)) (mc ms : Nat) (hf : fX5_free σ a1 = some (o, mc, ms)) : vx_Met l yX5_free (WSy yX5_free cX5_free 2 (some .int)) ({ frames := 8, cells := mc, slots := ms, locals := 143 } : Room) (va_Pc [.ref (ad 0 0), .int a1] (PreA D dA ad σ x mi sz)) (QXi o D dA [] ad σ x (WA ad (cvC σ) sz)) (XXC o D dA [] ad σ x (WA ad (cvC σ) sz)) mc ms (WA ad (cvC σ) sz) := by
  refine metx_of (by decide) (Nat.le_of_ble_eq_true rfl) ?_
  intro p e s m below meth c ls hC hE hB hl
  obtain ⟨rfl, hR, hK, hX, hLX⟩ := hB
  have hA : ∀ q : Nat, s.heap.size ≤ q → WA ad (cvC σ) s.heap.size q := fun q h => Or.inr h
  have hR := WW_fit (B := WA ad (cvC σ) s.heap.size) hR (fun f i h => WA_in h)
  have hS : va_S (WA ad (cvC σ) s.heap.size) s.heap s.heap [] := va_S.rf
  generalize WA ad (cvC σ) s.heap.size = A0 at hA hR hS hX ⊢
  have hC : CTX p s m _ meth c cX5_free 2 RX5 (some .int) := hC
  obtain ⟨hx, hb, hml, hown, hts, hr, hlk⟩ := id hC
  have hl : lv_has ls 2 [(0, .ref (ad 0 0)), (1, .int a1)] := hl
  have hKA : KA [] ad ad σ σ := KA_rf _ _ _
  have hm : mc = 0 + mc := (Nat.zero_add mc).symm
  have hn : ms = 0 + ms := (Nat.zero_add ms).symm
  unfold fX5_free at hf
  refine lv_iload_n hx hb dX5_free_0 rfl (lv_at hl 1 rfl) ?_
  rcases xb_of hf with ⟨e2, m3, n4, hcq1, rfl, hem, hen⟩ | ⟨q1, m3, n4, m5, n6, hcq1, hf, hem, hen⟩
  · refine kcx_v (vx_runS (As := [.int a1]) (rest := []) ⟨hx, hb, hml, hown, hts⟩ (mX5_demandMember l hst D dA ad σ _ x mi a1 (.inl e2) m3 n4 hcq1) (va_cwS 1 hts gX5_73 rfl rfl rfl (by decide +kernel) ⟨Nat.le_of_ble_eq_true rfl, Nat.le_of_ble_eq_true rfl⟩) (preSA_of hA hR hS hK hX hLX _) rfl rfl hl.1 rfl (lv_room (Nat.le_of_ble_eq_true rfl)) dX5_free_1 ⟨nleq hm hem, nleq hn hen⟩) hA hR hS (fun k σ' ad' H1 locs1 E ce q9 eo hEk hka hLX hR hS h1 h2 h3 => ?_) (fun _ _ _ _ eo => nomatch eo)
    cases eo
    exact passx hC hE hEk (KA_tr hKA hka (by decide)) hLX hR hS h1 h2 h3 (nleq hm hem) (nleq hn hen)
  refine kcx_vR (q := q1) (vx_runS (As := [.int a1]) (rest := []) ⟨hx, hb, hml, hown, hts⟩ (mX5_demandMember l hst D dA ad σ _ x mi a1 (.inr q1) m3 n4 hcq1) (va_cwS 1 hts gX5_73 rfl rfl rfl (by decide +kernel) ⟨Nat.le_of_ble_eq_true rfl, Nat.le_of_ble_eq_true rfl⟩) (preSA_of hA hR hS hK hX hLX _) rfl rfl hl.1 rfl (lv_room (Nat.le_of_ble_eq_true rfl)) dX5_free_1 ⟨nle hm hem, nle hn hen⟩) hA hR hS (fun ad7 H locs hka hLX hR hS => ?_)
  have e8 := (hka 0 0 rfl (by decide)).1
  have hl : lv_has ls 2 [(0, .ref (ad7 0 0)), (1, .int a1)] := by rw [e8]; exact hl
  have hKA := KA_tr hKA hka (by decide)
  have hm := nadd hm hem
  have hn := nadd hn hen
  refine lv_aload_n hx hb dX5_free_4 rfl (lv_at hl 0 rfl) ?_
  refine lv_iload_n hx hb dX5_free_5 rfl (lv_at hl 1 rfl) ?_
  obtain ⟨q9, hcq9, hf⟩ := bd_of hf
  obtain ⟨g10, hf⟩ := gd_of hf
  refine kc_l (va_runV (As := [.int a1]) (rest := []) ⟨hx, hb, hml, hown, hts⟩ (mX5_freeOf l D dA ad7 q1 _ a1 q9.1 q9.2 hcq9) (cwV 1 hts gX5_86 rfl rfl rfl (by decide +kernel) ⟨Nat.le_of_ble_eq_true rfl, Nat.le_of_ble_eq_true rfl⟩) (preV_of hR hK (f := 0) (i := 0) rfl rfl rfl _) rfl rfl hl.1 rfl (lv_room (Nat.le_of_ble_eq_true rfl)) dX5_free_6 ⟨nle0 hm, nle0 hn⟩) hA hR hS (fun H locs hR hS => ?_)
  have hKA := KA_same hKA g10
  have hLX := LX_same hLX g10
  refine lv_l2i hx hb dX5_free_9 rfl ?_
  cases hf
  exact retx_i hC hKA hLX hR hS (nfin hm) (nfin hn) dX5_free_10
def fX5_share (σ : St) (a1 : Int32) : Option ((XO (Int32 × St)) × Nat × Nat) := xb (fX5_demandMember σ a1) (fun q1 => gd (vin a1 5) (some (.inr (Int64.toInt32 (gL q1 1 a1.toNatClampNeg 0), q1), 0, 0)))
set_option maxHeartbeats 4000000 in
set_option maxRecDepth 100000 in
theorem mX5_share (l : Launch) (hst : l.stackTraces = false) (D : va_G) (dA : Nat → ClassId) (ad : Nat → Nat → Nat) (σ : St) (sz x mi : Nat) (a1 : Int32) (o : XO (Int32 × St)) (mc ms : Nat) (hf : fX5_share σ a1 = some (o, mc, ms)) : vx_Met l yX5_share (WSy yX5_share cX5_share 2 (some .int)) ({ frames := 8, cells := mc, slots := ms, locals := 132 } : Room) (va_Pc [.ref (ad 0 0), .int a1] (PreA D dA ad σ x mi sz)) (QXi o D dA [] ad σ x (WA ad (cvC σ) sz)) (XXC o D dA [] ad σ x (WA ad (cvC σ) sz)) mc ms (WA ad (cvC σ) sz) := by
  refine metx_of (by decide) (Nat.le_of_ble_eq_true rfl) ?_
  intro p e s m below meth c ls hC hE hB hl
  obtain ⟨rfl, hR, hK, hX, hLX⟩ := hB
  have hA : ∀ q : Nat, s.heap.size ≤ q → WA ad (cvC σ) s.heap.size q := fun q h => Or.inr h
  have hR := WW_fit (B := WA ad (cvC σ) s.heap.size) hR (fun f i h => WA_in h)
  have hS : va_S (WA ad (cvC σ) s.heap.size) s.heap s.heap [] := va_S.rf
  generalize WA ad (cvC σ) s.heap.size = A0 at hA hR hS hX ⊢
  have hC : CTX p s m _ meth c cX5_share 2 RX5 (some .int) := hC
  obtain ⟨hx, hb, hml, hown, hts, hr, hlk⟩ := id hC
  have hl : lv_has ls 2 [(0, .ref (ad 0 0)), (1, .int a1)] := hl
  have hKA : KA [] ad ad σ σ := KA_rf _ _ _
  have hm : mc = 0 + mc := (Nat.zero_add mc).symm
  have hn : ms = 0 + ms := (Nat.zero_add ms).symm
  unfold fX5_share at hf
  refine lv_iload_n hx hb dX5_share_0 rfl (lv_at hl 1 rfl) ?_
  rcases xb_of hf with ⟨e2, m3, n4, hcq1, rfl, hem, hen⟩ | ⟨q1, m3, n4, m5, n6, hcq1, hf, hem, hen⟩
  · refine kcx_v (vx_runS (As := [.int a1]) (rest := []) ⟨hx, hb, hml, hown, hts⟩ (mX5_demandMember l hst D dA ad σ _ x mi a1 (.inl e2) m3 n4 hcq1) (va_cwS 1 hts gX5_73 rfl rfl rfl (by decide +kernel) ⟨Nat.le_of_ble_eq_true rfl, Nat.le_of_ble_eq_true rfl⟩) (preSA_of hA hR hS hK hX hLX _) rfl rfl hl.1 rfl (lv_room (Nat.le_of_ble_eq_true rfl)) dX5_share_1 ⟨nleq hm hem, nleq hn hen⟩) hA hR hS (fun k σ' ad' H1 locs1 E ce q9 eo hEk hka hLX hR hS h1 h2 h3 => ?_) (fun _ _ _ _ eo => nomatch eo)
    cases eo
    exact passx hC hE hEk (KA_tr hKA hka (by decide)) hLX hR hS h1 h2 h3 (nleq hm hem) (nleq hn hen)
  refine kcx_vR (q := q1) (vx_runS (As := [.int a1]) (rest := []) ⟨hx, hb, hml, hown, hts⟩ (mX5_demandMember l hst D dA ad σ _ x mi a1 (.inr q1) m3 n4 hcq1) (va_cwS 1 hts gX5_73 rfl rfl rfl (by decide +kernel) ⟨Nat.le_of_ble_eq_true rfl, Nat.le_of_ble_eq_true rfl⟩) (preSA_of hA hR hS hK hX hLX _) rfl rfl hl.1 rfl (lv_room (Nat.le_of_ble_eq_true rfl)) dX5_share_1 ⟨nle hm hem, nle hn hen⟩) hA hR hS (fun ad7 H locs hka hLX hR hS => ?_)
  have e8 := (hka 0 0 rfl (by decide)).1
  have hl : lv_has ls 2 [(0, .ref (ad7 0 0)), (1, .int a1)] := by rw [e8]; exact hl
  have hKA := KA_tr hKA hka (by decide)
  have hm := nadd hm hem
  have hn := nadd hn hen
  refine lv_aload_n hx hb dX5_share_4 rfl (lv_at hl 0 rfl) ?_
  refine va_get (D := D) (ci := 6) (C := RX5) (T := TX5) (N := 8) hx hb hts iuX5 hown hK.1 (WW_one hR (f := 0) (i := 0) rfl) 0 rfl rfl 0 (by decide) (hts _ q_164) (fun _ h9 => h9) rfl dX5_share_5 ?_
  refine lv_iload_n hx hb dX5_share_8 rfl (lv_at hl 1 rfl) ?_
  obtain ⟨g9, hf⟩ := gd_of hf
  refine va_aldq (C := RX0) hx hb hK.1 (WW_one hR (f := 1) (i := 0) rfl) 0 3 rfl rfl g9 dX5_share_9 ?_
  refine va_getN (D := D) (ci := 1) (C := RX0) (T := TX0) (N := 8) hx hb hts iuX0 hown hK.1 (WW_one hR (f := 2) (i := a1.toNatClampNeg) (vin_lt g9)) 0 rfl rfl 1 (by decide) (nw_f hK.2 q_103) (fun _ h9 => h9) rfl dX5_share_10 ?_
  refine lv_l2i hx hb dX5_share_13 rfl ?_
  cases hf
  exact retx_i hC hKA hLX hR hS (nfin hm) (nfin hn) dX5_share_14
