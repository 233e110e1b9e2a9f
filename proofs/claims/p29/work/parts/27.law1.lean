def fL_some (σ : St) (a1 : Int32) (a2 : Int32) : Option (Int32) := gd (¬ a2 = 0) (some ((ush a1 1) - (ush a1 1) / a2 * a2))
set_option maxHeartbeats 4000000 in
set_option maxRecDepth 100000 in
theorem mL_some (l : Launch) (D : va_G) (dA : Nat → ClassId) (ad : Nat → Nat → Nat) (σ : St) (sz : Nat) (a1 : Int32) (a2 : Int32) (r : Int32) (hf : fL_some σ a1 a2 = some r) : Met l yL_some (WSy yL_some cL_some 2 (some .int)) ({ frames := 0, cells := 0, slots := 0, locals := 0 } : Room) (va_Pc [.int a1, .int a2] (fun U => U.heap.size = sz ∧ HC D dA (fun _ => True) ad σ U.heap ∧ KS D dA U)) (va_Qi (fun (x : Int32) (_ : Unit) => x = r) (fun _ t => HC D dA (WA ad (cvC σ) sz) ad σ t.heap) (WA ad (cvC σ) sz)) 0 0 (WA ad (cvC σ) sz) := by
  refine met_of (by decide) (Nat.le_of_ble_eq_true rfl) ?_
  intro p e s m below meth c ls hC hB hl
  obtain ⟨rfl, hR, hK⟩ := hB
  have hA : ∀ q : Nat, s.heap.size ≤ q → WA ad (cvC σ) s.heap.size q := fun q h => Or.inr h
  have hR := WW_fit (B := WA ad (cvC σ) s.heap.size) hR (fun f i h => WA_in h)
  have hS : va_S (WA ad (cvC σ) s.heap.size) s.heap s.heap [] := va_S.rf
  generalize WA ad (cvC σ) s.heap.size = A0 at hA hR hS ⊢
  have hC : CTX p s m _ meth c cL_some 2 RL (some .int) := hC
  obtain ⟨hx, hb, hml, hown, hts, hr, hlk⟩ := id hC
  have hl : lv_has ls 2 [(0, .int a1), (1, .int a2)] := hl
  unfold fL_some at hf
  refine lv_iload_n hx hb dL_some_0 rfl (lv_at hl 0 rfl) ?_
  refine lv_iconst (v := 1) hx hb dL_some_1 (by decide) ?_
  refine lv_iushr hx hb dL_some_2 rfl ?_
  refine lv_iload_n hx hb dL_some_3 rfl (lv_at hl 1 rfl) ?_
  obtain ⟨g1, hf⟩ := gd_of hf
  refine lv_irem hx hb dL_some_4 g1 ?_
  cases hf
  exact ret_i hC hR hS dL_some_5
def fL_does (σ : St) (a2 : Int32) (a3 : Int32) (a4 : Int32) (a5 : Int32) : Option ((XO (Int32 × St)) × Nat × Nat) := if a2 = 0 then xb (fX5_tell σ a3 a4) (fun q1 => some (.inr (q1.1, q1.2), 0, 0)) else if a2 = 1 then xb (fX5_setMove σ a3 a4 a5) (fun q9 => some (.inr (q9.1, q9.2), 0, 0)) else if a2 = 2 then xb (fX5_tellKind σ a3 a4) (fun q17 => some (.inr (q17.1, q17.2), 0, 0)) else if a2 = 3 then xb (fX5_pay σ a3 a4) (fun q25 => some (.inr (q25.1, q25.2), 0, 0)) else if a2 = 4 then xb (fX5_bring σ a3 a4 a5) (fun q33 => some (.inr (q33.1, q33.2), 0, 0)) else if a2 = 5 then xb (fX5_contribute σ a3 a4) (fun q41 => some (.inr (q41.1, q41.2), 0, 0)) else if a2 = 6 then if ¬ (a4 &&& 1) = 1 then xb (fX5_place σ a3 (a4 >>> (1 &&& 31)) 0 (a5 >>> (8 &&& 31)) ((a5 &&& 255) - 1)) (fun q50 => some (.inr (q50.1, q50.2), 0, 0)) else xb (fX5_place σ a3 (a4 >>> (1 &&& 31)) 1 (a5 >>> (8 &&& 31)) ((a5 &&& 255) - 1)) (fun q58 => some (.inr (q58.1, q58.2), 0, 0)) else if a2 = 7 then xb (fX5_cancel σ a3) (fun q66 => some (.inr (q66.1, q66.2), 0, 0)) else if a2 = 8 then if ¬ a4 = 1 then xb (fX5_halt σ a3 0) (fun q75 => some (.inr (q75.1, q75.2), 0, 0)) else xb (fX5_halt σ a3 1) (fun q83 => some (.inr (q83.1, q83.2), 0, 0)) else if a2 = 9 then xb (fX5_left σ a3) (fun q91 => some (.inr (q91.1, q91.2), 0, 0)) else if a2 = 10 then if ¬ a4 = 1 then xb (fX5_best σ a3 0) (fun q100 => some (.inr (q100.1, q100.2), 0, 0)) else xb (fX5_best σ a3 1) (fun q108 => some (.inr (q108.1, q108.2), 0, 0)) else if a2 = 11 then xb (fX5_called σ a3) (fun q116 => some (.inr (q116.1, q116.2), 0, 0)) else if a2 = 12 then xb (fX5_hasFailed σ a3) (fun q124 => if q124.1 = 0 then some (.inr (0, q124.2), 0, 0) else some (.inr (1, q124.2), 0, 0)) else if a2 = 13 then xb (fX5_position σ a3 a4) (fun q133 => some (.inr (q133.1, q133.2), 0, 0)) else if a2 = 14 then xb (fX5_cash σ a3) (fun q141 => some (.inr (q141.1, q141.2), 0, 0)) else if a2 = 15 then xb (fX5_equity σ a3) (fun q149 => some (.inr (q149.1, q149.2), 0, 0)) else if a2 = 16 then xb (fX5_equityByTrades σ a3) (fun q157 => some (.inr (q157.1, q157.2), 0, 0)) else if a2 = 17 then xb (fX5_margin σ a3) (fun q165 => some (.inr (q165.1, q165.2), 0, 0)) else if a2 = 18 then xb (fX5_haircut σ a3) (fun q173 => some (.inr (q173.1, q173.2), 0, 0)) else if a2 = 19 then xb (fX5_collateral σ a3) (fun q181 => some (.inr (q181.1, q181.2), 0, 0)) else if a2 = 20 then xb (fX5_free σ a3) (fun q189 => some (.inr (q189.1, q189.2), 0, 0)) else xb (fX5_share σ a3) (fun q197 => some (.inr (q197.1, q197.2), 0, 0))
set_option maxHeartbeats 4000000 in
set_option maxRecDepth 100000 in
theorem mL_does (l : Launch) (hst : l.stackTraces = false) (D : va_G) (dA : Nat → ClassId) (ad : Nat → Nat → Nat) (σ : St) (sz x mi : Nat) (a2 : Int32) (a3 : Int32) (a4 : Int32) (a5 : Int32) (o : XO (Int32 × St)) (mc ms : Nat) (hf : fL_does σ a2 a3 a4 a5 = some (o, mc, ms)) : vx_Met l yL_does (WSy yL_does cL_does 5 (some .int)) ({ frames := 11, cells := mc, slots := ms, locals := 276 } : Room) (va_Pc [.ref (ad 0 0), .int a2, .int a3, .int a4, .int a5] (PreA D dA ad σ x mi sz)) (QXi o D dA [13, 15] ad σ x (WA ad (cvC σ) sz)) (XXC o D dA [13, 15] ad σ x (WA ad (cvC σ) sz)) mc ms (WA ad (cvC σ) sz) := by
  refine metx_of (by decide) (Nat.le_of_ble_eq_true rfl) ?_
  intro p e s m below meth c ls hC hE hB hl
  obtain ⟨rfl, hR, hK, hX, hLX⟩ := hB
  have hA : ∀ q : Nat, s.heap.size ≤ q → WA ad (cvC σ) s.heap.size q := fun q h => Or.inr h
  have hR := WW_fit (B := WA ad (cvC σ) s.heap.size) hR (fun f i h => WA_in h)
  have hS : va_S (WA ad (cvC σ) s.heap.size) s.heap s.heap [] := va_S.rf
  generalize WA ad (cvC σ) s.heap.size = A0 at hA hR hS hX ⊢
  have hC : CTX p s m _ meth c cL_does 5 RL (some .int) := hC
  obtain ⟨hx, hb, hml, hown, hts, hr, hlk⟩ := id hC
  have hl : lv_has ls 5 [(0, .ref (ad 0 0)), (1, .int a2), (2, .int a3), (3, .int a4), (4, .int a5)] := hl
  have hKA : KA [13, 15] ad ad σ σ := KA_rf _ _ _
  have hm : mc = 0 + mc := (Nat.zero_add mc).symm
  have hn : ms = 0 + ms := (Nat.zero_add ms).symm
  unfold fL_does at hf
  refine lv_iload_n hx hb dL_does_0 rfl (lv_at hl 1 rfl) ?_
  by_cases c0 : a2 = 0
  · have hf := if_of_pos hf c0
    refine lv_tableIn (off := 99) (tgt := 100) hx hb dL_does_1 (by rw [c0]; decide) (by rw [c0]; decide) (by rw [c0]; rfl) (by decide) ?_
    refine lv_aload_n hx hb dL_does_100 rfl (lv_at hl 0 rfl) ?_
    refine lv_iload_n hx hb dL_does_101 rfl (lv_at hl 2 rfl) ?_
    refine lv_iload_n hx hb dL_does_102 rfl (lv_at hl 3 rfl) ?_
    rcases xb_of hf with ⟨e2, m3, n4, hcq1, rfl, hem, hen⟩ | ⟨q1, m3, n4, m5, n6, hcq1, hf, hem, hen⟩
    · refine kcx_i (vx_runV (As := [.int a3, .int a4]) (rest := []) ⟨hx, hb, hml, hown, hts⟩ (mX5_tell l hst D dA ad σ _ x mi a3 a4 (.inl e2) m3 n4 hcq1) (cwV 2 hts gL_27 rfl rfl rfl (by decide +kernel) ⟨Nat.le_of_ble_eq_true rfl, Nat.le_of_ble_eq_true rfl⟩) (preVA_of hA hR hS hK hX hLX _) rfl rfl hl.1 rfl (lv_room (Nat.le_of_ble_eq_true rfl)) dL_does_103 ⟨nleq hm hem, nleq hn hen⟩) hA hR hS (fun k σ' ad' H1 locs1 E ce q9 eo hEk hka hLX hR hS h1 h2 h3 => ?_) (fun _ _ _ _ _ eo => nomatch eo)
      cases eo
      exact passx hC hE hEk (KA_tr hKA hka (by decide)) hLX hR hS h1 h2 h3 (nleq hm hem) (nleq hn hen)
    refine kcx_iR (q := q1) (vx_runV (As := [.int a3, .int a4]) (rest := []) ⟨hx, hb, hml, hown, hts⟩ (mX5_tell l hst D dA ad σ _ x mi a3 a4 (.inr q1) m3 n4 hcq1) (cwV 2 hts gL_27 rfl rfl rfl (by decide +kernel) ⟨Nat.le_of_ble_eq_true rfl, Nat.le_of_ble_eq_true rfl⟩) (preVA_of hA hR hS hK hX hLX _) rfl rfl hl.1 rfl (lv_room (Nat.le_of_ble_eq_true rfl)) dL_does_103 ⟨nle hm hem, nle hn hen⟩) hA hR hS (fun ad7 H locs hka hLX hR hS => ?_)
    have e8 := (hka 0 0 rfl (by decide)).1
    have hl : lv_has ls 5 [(0, .ref (ad7 0 0)), (1, .int a2), (2, .int a3), (3, .int a4), (4, .int a5)] := by rw [e8]; exact hl
    have hKA := KA_tr hKA hka (by decide)
    have hm := nadd hm hem
    have hn := nadd hn hen
    cases hf
    exact retx_i hC hKA hLX hR hS (nfin hm) (nfin hn) dL_does_106
  have hf := if_of_neg hf c0
  by_cases c1 : a2 = 1
  · have hf := if_of_pos hf c1
    refine lv_tableIn (off := 106) (tgt := 107) hx hb dL_does_1 (by rw [c1]; decide) (by rw [c1]; decide) (by rw [c1]; rfl) (by decide) ?_
    refine lv_aload_n hx hb dL_does_107 rfl (lv_at hl 0 rfl) ?_
    refine lv_iload_n hx hb dL_does_108 rfl (lv_at hl 2 rfl) ?_
    refine lv_iload_n hx hb dL_does_109 rfl (lv_at hl 3 rfl) ?_
    refine lv_iload hx hb dL_does_110 (lv_at hl 4 rfl) ?_
    rcases xb_of hf with ⟨e10, m11, n12, hcq9, rfl, hem, hen⟩ | ⟨q9, m11, n12, m13, n14, hcq9, hf, hem, hen⟩
    · refine kcx_i (vx_runV (As := [.int a3, .int a4, .int a5]) (rest := []) ⟨hx, hb, hml, hown, hts⟩ (mX5_setMove l hst D dA ad σ _ x mi a3 a4 a5 (.inl e10) m11 n12 hcq9) (cwV 3 hts gL_33 rfl rfl rfl (by decide +kernel) ⟨Nat.le_of_ble_eq_true rfl, Nat.le_of_ble_eq_true rfl⟩) (preVA_of hA hR hS hK hX hLX _) rfl rfl hl.1 rfl (lv_room (Nat.le_of_ble_eq_true rfl)) dL_does_112 ⟨nleq hm hem, nleq hn hen⟩) hA hR hS (fun k σ' ad' H1 locs1 E ce q9 eo hEk hka hLX hR hS h1 h2 h3 => ?_) (fun _ _ _ _ _ eo => nomatch eo)
      cases eo
      exact passx hC hE hEk (KA_tr hKA hka (by decide)) hLX hR hS h1 h2 h3 (nleq hm hem) (nleq hn hen)
    refine kcx_iR (q := q9) (vx_runV (As := [.int a3, .int a4, .int a5]) (rest := []) ⟨hx, hb, hml, hown, hts⟩ (mX5_setMove l hst D dA ad σ _ x mi a3 a4 a5 (.inr q9) m11 n12 hcq9) (cwV 3 hts gL_33 rfl rfl rfl (by decide +kernel) ⟨Nat.le_of_ble_eq_true rfl, Nat.le_of_ble_eq_true rfl⟩) (preVA_of hA hR hS hK hX hLX _) rfl rfl hl.1 rfl (lv_room (Nat.le_of_ble_eq_true rfl)) dL_does_112 ⟨nle hm hem, nle hn hen⟩) hA hR hS (fun ad15 H locs hka hLX hR hS => ?_)
    have e16 := (hka 0 0 rfl (by decide)).1
    have hl : lv_has ls 5 [(0, .ref (ad15 0 0)), (1, .int a2), (2, .int a3), (3, .int a4), (4, .int a5)] := by rw [e16]; exact hl
    have hKA := KA_tr hKA hka (by decide)
    have hm := nadd hm hem
    have hn := nadd hn hen
    cases hf
    exact retx_i hC hKA hLX hR hS (nfin hm) (nfin hn) dL_does_115
  have hf := if_of_neg hf c1
  by_cases c2 : a2 = 2
  · have hf := if_of_pos hf c2
    refine lv_tableIn (off := 115) (tgt := 116) hx hb dL_does_1 (by rw [c2]; decide) (by rw [c2]; decide) (by rw [c2]; rfl) (by decide) ?_
    refine lv_aload_n hx hb dL_does_116 rfl (lv_at hl 0 rfl) ?_
    refine lv_iload_n hx hb dL_does_117 rfl (lv_at hl 2 rfl) ?_
    refine lv_iload_n hx hb dL_does_118 rfl (lv_at hl 3 rfl) ?_
    rcases xb_of hf with ⟨e18, m19, n20, hcq17, rfl, hem, hen⟩ | ⟨q17, m19, n20, m21, n22, hcq17, hf, hem, hen⟩
    · refine kcx_i (vx_runV (As := [.int a3, .int a4]) (rest := []) ⟨hx, hb, hml, hown, hts⟩ (mX5_tellKind l hst D dA ad σ _ x mi a3 a4 (.inl e18) m19 n20 hcq17) (cwV 2 hts gL_37 rfl rfl rfl (by decide +kernel) ⟨Nat.le_of_ble_eq_true rfl, Nat.le_of_ble_eq_true rfl⟩) (preVA_of hA hR hS hK hX hLX _) rfl rfl hl.1 rfl (lv_room (Nat.le_of_ble_eq_true rfl)) dL_does_119 ⟨nleq hm hem, nleq hn hen⟩) hA hR hS (fun k σ' ad' H1 locs1 E ce q9 eo hEk hka hLX hR hS h1 h2 h3 => ?_) (fun _ _ _ _ _ eo => nomatch eo)
      cases eo
      exact passx hC hE hEk (KA_tr hKA hka (by decide)) hLX hR hS h1 h2 h3 (nleq hm hem) (nleq hn hen)
    refine kcx_iR (q := q17) (vx_runV (As := [.int a3, .int a4]) (rest := []) ⟨hx, hb, hml, hown, hts⟩ (mX5_tellKind l hst D dA ad σ _ x mi a3 a4 (.inr q17) m19 n20 hcq17) (cwV 2 hts gL_37 rfl rfl rfl (by decide +kernel) ⟨Nat.le_of_ble_eq_true rfl, Nat.le_of_ble_eq_true rfl⟩) (preVA_of hA hR hS hK hX hLX _) rfl rfl hl.1 rfl (lv_room (Nat.le_of_ble_eq_true rfl)) dL_does_119 ⟨nle hm hem, nle hn hen⟩) hA hR hS (fun ad23 H locs hka hLX hR hS => ?_)
    have e24 := (hka 0 0 rfl (by decide)).1
    have hl : lv_has ls 5 [(0, .ref (ad23 0 0)), (1, .int a2), (2, .int a3), (3, .int a4), (4, .int a5)] := by rw [e24]; exact hl
    have hKA := KA_tr hKA hka (by decide)
    have hm := nadd hm hem
    have hn := nadd hn hen
    cases hf
    exact retx_i hC hKA hLX hR hS (nfin hm) (nfin hn) dL_does_122
  have hf := if_of_neg hf c2
  by_cases c3 : a2 = 3
  · have hf := if_of_pos hf c3
    refine lv_tableIn (off := 122) (tgt := 123) hx hb dL_does_1 (by rw [c3]; decide) (by rw [c3]; decide) (by rw [c3]; rfl) (by decide) ?_
    refine lv_aload_n hx hb dL_does_123 rfl (lv_at hl 0 rfl) ?_
    refine lv_iload_n hx hb dL_does_124 rfl (lv_at hl 2 rfl) ?_
    refine lv_iload_n hx hb dL_does_125 rfl (lv_at hl 3 rfl) ?_
    rcases xb_of hf with ⟨e26, m27, n28, hcq25, rfl, hem, hen⟩ | ⟨q25, m27, n28, m29, n30, hcq25, hf, hem, hen⟩
    · refine kcx_i (vx_runV (As := [.int a3, .int a4]) (rest := []) ⟨hx, hb, hml, hown, hts⟩ (mX5_pay l hst D dA ad σ _ x mi a3 a4 (.inl e26) m27 n28 hcq25) (cwV 2 hts gL_40 rfl rfl rfl (by decide +kernel) ⟨Nat.le_of_ble_eq_true rfl, Nat.le_of_ble_eq_true rfl⟩) (preVA_of hA hR hS hK hX hLX _) rfl rfl hl.1 rfl (lv_room (Nat.le_of_ble_eq_true rfl)) dL_does_126 ⟨nleq hm hem, nleq hn hen⟩) hA hR hS (fun k σ' ad' H1 locs1 E ce q9 eo hEk hka hLX hR hS h1 h2 h3 => ?_) (fun _ _ _ _ _ eo => nomatch eo)
      cases eo
      exact passx hC hE hEk (KA_tr hKA hka (by decide)) hLX hR hS h1 h2 h3 (nleq hm hem) (nleq hn hen)
    refine kcx_iR (q := q25) (vx_runV (As := [.int a3, .int a4]) (rest := []) ⟨hx, hb, hml, hown, hts⟩ (mX5_pay l hst D dA ad σ _ x mi a3 a4 (.inr q25) m27 n28 hcq25) (cwV 2 hts gL_40 rfl rfl rfl (by decide +kernel) ⟨Nat.le_of_ble_eq_true rfl, Nat.le_of_ble_eq_true rfl⟩) (preVA_of hA hR hS hK hX hLX _) rfl rfl hl.1 rfl (lv_room (Nat.le_of_ble_eq_true rfl)) dL_does_126 ⟨nle hm hem, nle hn hen⟩) hA hR hS (fun ad31 H locs hka hLX hR hS => ?_)
    have e32 := (hka 0 0 rfl (by decide)).1
    have hl : lv_has ls 5 [(0, .ref (ad31 0 0)), (1, .int a2), (2, .int a3), (3, .int a4), (4, .int a5)] := by rw [e32]; exact hl
    have hKA := KA_tr hKA hka (by decide)
    have hm := nadd hm hem
    have hn := nadd hn hen
    cases hf
    exact retx_i hC hKA hLX hR hS (nfin hm) (nfin hn) dL_does_129
  have hf := if_of_neg hf c3
  by_cases c4 : a2 = 4
  · have hf := if_of_pos hf c4
    refine lv_tableIn (off := 129) (tgt := 130) hx hb dL_does_1 (by rw [c4]; decide) (by rw [c4]; decide) (by rw [c4]; rfl) (by decide) ?_
    refine lv_aload_n hx hb dL_does_130 rfl (lv_at hl 0 rfl) ?_
    refine lv_iload_n hx hb dL_does_131 rfl (lv_at hl 2 rfl) ?_
    refine lv_iload_n hx hb dL_does_132 rfl (lv_at hl 3 rfl) ?_
    refine lv_iload hx hb dL_does_133 (lv_at hl 4 rfl) ?_
    rcases xb_of hf with ⟨e34, m35, n36, hcq33, rfl, hem, hen⟩ | ⟨q33, m35, n36, m37, n38, hcq33, hf, hem, hen⟩
    · refine kcx_i (vx_runV (As := [.int a3, .int a4, .int a5]) (rest := []) ⟨hx, hb, hml, hown, hts⟩ (mX5_bring l hst D dA ad σ _ x mi a3 a4 a5 (.inl e34) m35 n36 hcq33) (cwV 3 hts gL_43 rfl rfl rfl (by decide +kernel) ⟨Nat.le_of_ble_eq_true rfl, Nat.le_of_ble_eq_true rfl⟩) (preVA_of hA hR hS hK hX hLX _) rfl rfl hl.1 rfl (lv_room (Nat.le_of_ble_eq_true rfl)) dL_does_135 ⟨nleq hm hem, nleq hn hen⟩) hA hR hS (fun k σ' ad' H1 locs1 E ce q9 eo hEk hka hLX hR hS h1 h2 h3 => ?_) (fun _ _ _ _ _ eo => nomatch eo)
      cases eo
      exact passx hC hE hEk (KA_tr hKA hka (by decide)) hLX hR hS h1 h2 h3 (nleq hm hem) (nleq hn hen)
    refine kcx_iR (q := q33) (vx_runV (As := [.int a3, .int a4, .int a5]) (rest := []) ⟨hx, hb, hml, hown, hts⟩ (mX5_bring l hst D dA ad σ _ x mi a3 a4 a5 (.inr q33) m35 n36 hcq33) (cwV 3 hts gL_43 rfl rfl rfl (by decide +kernel) ⟨Nat.le_of_ble_eq_true rfl, Nat.le_of_ble_eq_true rfl⟩) (preVA_of hA hR hS hK hX hLX _) rfl rfl hl.1 rfl (lv_room (Nat.le_of_ble_eq_true rfl)) dL_does_135 ⟨nle hm hem, nle hn hen⟩) hA hR hS (fun ad39 H locs hka hLX hR hS => ?_)
    have e40 := (hka 0 0 rfl (by decide)).1
    have hl : lv_has ls 5 [(0, .ref (ad39 0 0)), (1, .int a2), (2, .int a3), (3, .int a4), (4, .int a5)] := by rw [e40]; exact hl
    have hKA := KA_tr hKA hka (by decide)
    have hm := nadd hm hem
    have hn := nadd hn hen
    cases hf
    exact retx_i hC hKA hLX hR hS (nfin hm) (nfin hn) dL_does_138
  have hf := if_of_neg hf c4
  by_cases c5 : a2 = 5
  · have hf := if_of_pos hf c5
    refine lv_tableIn (off := 138) (tgt := 139) hx hb dL_does_1 (by rw [c5]; decide) (by rw [c5]; decide) (by rw [c5]; rfl) (by decide) ?_
    refine lv_aload_n hx hb dL_does_139 rfl (lv_at hl 0 rfl) ?_
    refine lv_iload_n hx hb dL_does_140 rfl (lv_at hl 2 rfl) ?_
    refine lv_iload_n hx hb dL_does_141 rfl (lv_at hl 3 rfl) ?_
    rcases xb_of hf with ⟨e42, m43, n44, hcq41, rfl, hem, hen⟩ | ⟨q41, m43, n44, m45, n46, hcq41, hf, hem, hen⟩
    · refine kcx_i (vx_runV (As := [.int a3, .int a4]) (rest := []) ⟨hx, hb, hml, hown, hts⟩ (mX5_contribute l hst D dA ad σ _ x mi a3 a4 (.inl e42) m43 n44 hcq41) (cwV 2 hts gL_46 rfl rfl rfl (by decide +kernel) ⟨Nat.le_of_ble_eq_true rfl, Nat.le_of_ble_eq_true rfl⟩) (preVA_of hA hR hS hK hX hLX _) rfl rfl hl.1 rfl (lv_room (Nat.le_of_ble_eq_true rfl)) dL_does_142 ⟨nleq hm hem, nleq hn hen⟩) hA hR hS (fun k σ' ad' H1 locs1 E ce q9 eo hEk hka hLX hR hS h1 h2 h3 => ?_) (fun _ _ _ _ _ eo => nomatch eo)
      cases eo
      exact passx hC hE hEk (KA_tr hKA hka (by decide)) hLX hR hS h1 h2 h3 (nleq hm hem) (nleq hn hen)
    refine kcx_iR (q := q41) (vx_runV (As := [.int a3, .int a4]) (rest := []) ⟨hx, hb, hml, hown, hts⟩ (mX5_contribute l hst D dA ad σ _ x mi a3 a4 (.inr q41) m43 n44 hcq41) (cwV 2 hts gL_46 rfl rfl rfl (by decide +kernel) ⟨Nat.le_of_ble_eq_true rfl, Nat.le_of_ble_eq_true rfl⟩) (preVA_of hA hR hS hK hX hLX _) rfl rfl hl.1 rfl (lv_room (Nat.le_of_ble_eq_true rfl)) dL_does_142 ⟨nle hm hem, nle hn hen⟩) hA hR hS (fun ad47 H locs hka hLX hR hS => ?_)
    have e48 := (hka 0 0 rfl (by decide)).1
    have hl : lv_has ls 5 [(0, .ref (ad47 0 0)), (1, .int a2), (2, .int a3), (3, .int a4), (4, .int a5)] := by rw [e48]; exact hl
    have hKA := KA_tr hKA hka (by decide)
    have hm := nadd hm hem
    have hn := nadd hn hen
    cases hf
    exact retx_i hC hKA hLX hR hS (nfin hm) (nfin hn) dL_does_145
  have hf := if_of_neg hf c5
  by_cases c6 : a2 = 6
  · have hf := if_of_pos hf c6
    refine lv_tableIn (off := 145) (tgt := 146) hx hb dL_does_1 (by rw [c6]; decide) (by rw [c6]; decide) (by rw [c6]; rfl) (by decide) ?_
    refine lv_aload_n hx hb dL_does_146 rfl (lv_at hl 0 rfl) ?_
    refine lv_iload_n hx hb dL_does_147 rfl (lv_at hl 2 rfl) ?_
    refine lv_iload_n hx hb dL_does_148 rfl (lv_at hl 3 rfl) ?_
    refine lv_iconst (v := 1) hx hb dL_does_149 (by decide) ?_
    refine lv_ishr hx hb dL_does_150 ?_
    refine lv_iload_n hx hb dL_does_151 rfl (lv_at hl 3 rfl) ?_
    refine lv_iconst (v := 1) hx hb dL_does_152 (by decide) ?_
    refine lv_iand hx hb dL_does_153 ?_
    refine lv_iconst (v := 1) hx hb dL_does_154 (by decide) ?_
    refine lv_icmp_ne (tgt := 162) hx hb dL_does_155 (by decide) (fun c49 => ?_) (fun c49 => ?_)
    · have hf := if_of_pos hf c49
      refine lv_iconst (v := 0) hx hb dL_does_162 (by decide) ?_
      refine lv_iload hx hb dL_does_163 (lv_at hl 4 rfl) ?_
      refine lv_bipush (v := 8) hx hb dL_does_165 (by decide) ?_
      refine lv_ishr hx hb dL_does_167 ?_
      refine lv_iload hx hb dL_does_168 (lv_at hl 4 rfl) ?_
      refine lv_sipush (v := 255) hx hb dL_does_170 (by decide) ?_
      refine lv_iand hx hb dL_does_173 ?_
      refine lv_iconst (v := 1) hx hb dL_does_174 (by decide) ?_
      refine lv_isub hx hb dL_does_175 ?_
      rcases xb_of hf with ⟨e51, m52, n53, hcq50, rfl, hem, hen⟩ | ⟨q50, m52, n53, m54, n55, hcq50, hf, hem, hen⟩
      · refine kcx_i (vx_runV (As := [.int a3, .int (a4 >>> (1 &&& 31)), .int 0, .int (a5 >>> (8 &&& 31)), .int ((a5 &&& 255) - 1)]) (rest := []) ⟨hx, hb, hml, hown, hts⟩ (mX5_place l hst D dA ad σ _ x mi a3 (a4 >>> (1 &&& 31)) 0 (a5 >>> (8 &&& 31)) ((a5 &&& 255) - 1) (.inl e51) m52 n53 hcq50) (cwV 5 hts gL_49 rfl rfl rfl (by decide +kernel) ⟨Nat.le_of_ble_eq_true rfl, Nat.le_of_ble_eq_true rfl⟩) (preVA_of hA hR hS hK hX hLX _) rfl rfl hl.1 rfl (lv_room (Nat.le_of_ble_eq_true rfl)) dL_does_176 ⟨nleq hm hem, nleq hn hen⟩) hA hR hS (fun k σ' ad' H1 locs1 E ce q9 eo hEk hka hLX hR hS h1 h2 h3 => ?_) (fun _ _ _ _ _ eo => nomatch eo)
        cases eo
        exact passx hC hE hEk (KA_tr hKA hka (by decide)) hLX hR hS h1 h2 h3 (nleq hm hem) (nleq hn hen)
      refine kcx_iR (q := q50) (vx_runV (As := [.int a3, .int (a4 >>> (1 &&& 31)), .int 0, .int (a5 >>> (8 &&& 31)), .int ((a5 &&& 255) - 1)]) (rest := []) ⟨hx, hb, hml, hown, hts⟩ (mX5_place l hst D dA ad σ _ x mi a3 (a4 >>> (1 &&& 31)) 0 (a5 >>> (8 &&& 31)) ((a5 &&& 255) - 1) (.inr q50) m52 n53 hcq50) (cwV 5 hts gL_49 rfl rfl rfl (by decide +kernel) ⟨Nat.le_of_ble_eq_true rfl, Nat.le_of_ble_eq_true rfl⟩) (preVA_of hA hR hS hK hX hLX _) rfl rfl hl.1 rfl (lv_room (Nat.le_of_ble_eq_true rfl)) dL_does_176 ⟨nle hm hem, nle hn hen⟩) hA hR hS (fun ad56 H locs hka hLX hR hS => ?_)
      have e57 := (hka 0 0 rfl (by decide)).1
      have hl : lv_has ls 5 [(0, .ref (ad56 0 0)), (1, .int a2), (2, .int a3), (3, .int a4), (4, .int a5)] := by rw [e57]; exact hl
      have hKA := KA_tr hKA hka (by decide)
      have hm := nadd hm hem
      have hn := nadd hn hen
      cases hf
      exact retx_i hC hKA hLX hR hS (nfin hm) (nfin hn) dL_does_179
    · have hf := if_of_neg hf (fun q => q c49)
      refine lv_iconst (v := 1) hx hb dL_does_158 (by decide) ?_
      refine lv_goto (tgt := 163) hx hb dL_does_159 (by decide) ?_
      refine lv_iload hx hb dL_does_163 (lv_at hl 4 rfl) ?_
      refine lv_bipush (v := 8) hx hb dL_does_165 (by decide) ?_
      refine lv_ishr hx hb dL_does_167 ?_
      refine lv_iload hx hb dL_does_168 (lv_at hl 4 rfl) ?_
      refine lv_sipush (v := 255) hx hb dL_does_170 (by decide) ?_
      refine lv_iand hx hb dL_does_173 ?_
      refine lv_iconst (v := 1) hx hb dL_does_174 (by decide) ?_
      refine lv_isub hx hb dL_does_175 ?_
      rcases xb_of hf with ⟨e59, m60, n61, hcq58, rfl, hem, hen⟩ | ⟨q58, m60, n61, m62, n63, hcq58, hf, hem, hen⟩
      · refine kcx_i (vx_runV (As := [.int a3, .int (a4 >>> (1 &&& 31)), .int 1, .int (a5 >>> (8 &&& 31)), .int ((a5 &&& 255) - 1)]) (rest := []) ⟨hx, hb, hml, hown, hts⟩ (mX5_place l hst D dA ad σ _ x mi a3 (a4 >>> (1 &&& 31)) 1 (a5 >>> (8 &&& 31)) ((a5 &&& 255) - 1) (.inl e59) m60 n61 hcq58) (cwV 5 hts gL_49 rfl rfl rfl (by decide +kernel) ⟨Nat.le_of_ble_eq_true rfl, Nat.le_of_ble_eq_true rfl⟩) (preVA_of hA hR hS hK hX hLX _) rfl rfl hl.1 rfl (lv_room (Nat.le_of_ble_eq_true rfl)) dL_does_176 ⟨nleq hm hem, nleq hn hen⟩) hA hR hS (fun k σ' ad' H1 locs1 E ce q9 eo hEk hka hLX hR hS h1 h2 h3 => ?_) (fun _ _ _ _ _ eo => nomatch eo)
        cases eo
        exact passx hC hE hEk (KA_tr hKA hka (by decide)) hLX hR hS h1 h2 h3 (nleq hm hem) (nleq hn hen)
      refine kcx_iR (q := q58) (vx_runV (As := [.int a3, .int (a4 >>> (1 &&& 31)), .int 1, .int (a5 >>> (8 &&& 31)), .int ((a5 &&& 255) - 1)]) (rest := []) ⟨hx, hb, hml, hown, hts⟩ (mX5_place l hst D dA ad σ _ x mi a3 (a4 >>> (1 &&& 31)) 1 (a5 >>> (8 &&& 31)) ((a5 &&& 255) - 1) (.inr q58) m60 n61 hcq58) (cwV 5 hts gL_49 rfl rfl rfl (by decide +kernel) ⟨Nat.le_of_ble_eq_true rfl, Nat.le_of_ble_eq_true rfl⟩) (preVA_of hA hR hS hK hX hLX _) rfl rfl hl.1 rfl (lv_room (Nat.le_of_ble_eq_true rfl)) dL_does_176 ⟨nle hm hem, nle hn hen⟩) hA hR hS (fun ad64 H locs hka hLX hR hS => ?_)
      have e65 := (hka 0 0 rfl (by decide)).1
      have hl : lv_has ls 5 [(0, .ref (ad64 0 0)), (1, .int a2), (2, .int a3), (3, .int a4), (4, .int a5)] := by rw [e65]; exact hl
      have hKA := KA_tr hKA hka (by decide)
      have hm := nadd hm hem
      have hn := nadd hn hen
      cases hf
      exact retx_i hC hKA hLX hR hS (nfin hm) (nfin hn) dL_does_179
  have hf := if_of_neg hf c6
  by_cases c7 : a2 = 7
  · have hf := if_of_pos hf c7
    refine lv_tableIn (off := 179) (tgt := 180) hx hb dL_does_1 (by rw [c7]; decide) (by rw [c7]; decide) (by rw [c7]; rfl) (by decide) ?_
    refine lv_aload_n hx hb dL_does_180 rfl (lv_at hl 0 rfl) ?_
    refine lv_iload_n hx hb dL_does_181 rfl (lv_at hl 2 rfl) ?_
    rcases xb_of hf with ⟨e67, m68, n69, hcq66, rfl, hem, hen⟩ | ⟨q66, m68, n69, m70, n71, hcq66, hf, hem, hen⟩
    · refine kcx_i (vx_runV (As := [.int a3]) (rest := []) ⟨hx, hb, hml, hown, hts⟩ (mX5_cancel l hst D dA ad σ _ x mi a3 (.inl e67) m68 n69 hcq66) (cwV 1 hts gL_53 rfl rfl rfl (by decide +kernel) ⟨Nat.le_of_ble_eq_true rfl, Nat.le_of_ble_eq_true rfl⟩) (preVA_of hA hR hS hK hX hLX _) rfl rfl hl.1 rfl (lv_room (Nat.le_of_ble_eq_true rfl)) dL_does_182 ⟨nleq hm hem, nleq hn hen⟩) hA hR hS (fun k σ' ad' H1 locs1 E ce q9 eo hEk hka hLX hR hS h1 h2 h3 => ?_) (fun _ _ _ _ _ eo => nomatch eo)
      cases eo
      exact passx hC hE hEk (KA_tr hKA hka (by decide)) hLX hR hS h1 h2 h3 (nleq hm hem) (nleq hn hen)
    refine kcx_iR (q := q66) (vx_runV (As := [.int a3]) (rest := []) ⟨hx, hb, hml, hown, hts⟩ (mX5_cancel l hst D dA ad σ _ x mi a3 (.inr q66) m68 n69 hcq66) (cwV 1 hts gL_53 rfl rfl rfl (by decide +kernel) ⟨Nat.le_of_ble_eq_true rfl, Nat.le_of_ble_eq_true rfl⟩) (preVA_of hA hR hS hK hX hLX _) rfl rfl hl.1 rfl (lv_room (Nat.le_of_ble_eq_true rfl)) dL_does_182 ⟨nle hm hem, nle hn hen⟩) hA hR hS (fun ad72 H locs hka hLX hR hS => ?_)
    have e73 := (hka 0 0 rfl (by decide)).1
    have hl : lv_has ls 5 [(0, .ref (ad72 0 0)), (1, .int a2), (2, .int a3), (3, .int a4), (4, .int a5)] := by rw [e73]; exact hl
    have hKA := KA_tr hKA hka (by decide)
    have hm := nadd hm hem
    have hn := nadd hn hen
    cases hf
    exact retx_i hC hKA hLX hR hS (nfin hm) (nfin hn) dL_does_185
  have hf := if_of_neg hf c7
  by_cases c8 : a2 = 8
  · have hf := if_of_pos hf c8
    refine lv_tableIn (off := 185) (tgt := 186) hx hb dL_does_1 (by rw [c8]; decide) (by rw [c8]; decide) (by rw [c8]; rfl) (by decide) ?_
    refine lv_aload_n hx hb dL_does_186 rfl (lv_at hl 0 rfl) ?_
    refine lv_iload_n hx hb dL_does_187 rfl (lv_at hl 2 rfl) ?_
    refine lv_iload_n hx hb dL_does_188 rfl (lv_at hl 3 rfl) ?_
    refine lv_iconst (v := 1) hx hb dL_does_189 (by decide) ?_
    refine lv_icmp_ne (tgt := 197) hx hb dL_does_190 (by decide) (fun c74 => ?_) (fun c74 => ?_)
    · have hf := if_of_pos hf c74
      refine lv_iconst (v := 0) hx hb dL_does_197 (by decide) ?_
      rcases xb_of hf with ⟨e76, m77, n78, hcq75, rfl, hem, hen⟩ | ⟨q75, m77, n78, m79, n80, hcq75, hf, hem, hen⟩
      · refine kcx_i (vx_runV (As := [.int a3, .int 0]) (rest := []) ⟨hx, hb, hml, hown, hts⟩ (mX5_halt l hst D dA ad σ _ x mi a3 0 (.inl e76) m77 n78 hcq75) (cwV 2 hts gL_57 rfl rfl rfl (by decide +kernel) ⟨Nat.le_of_ble_eq_true rfl, Nat.le_of_ble_eq_true rfl⟩) (preVA_of hA hR hS hK hX hLX _) rfl rfl hl.1 rfl (lv_room (Nat.le_of_ble_eq_true rfl)) dL_does_198 ⟨nleq hm hem, nleq hn hen⟩) hA hR hS (fun k σ' ad' H1 locs1 E ce q9 eo hEk hka hLX hR hS h1 h2 h3 => ?_) (fun _ _ _ _ _ eo => nomatch eo)
        cases eo
        exact passx hC hE hEk (KA_tr hKA hka (by decide)) hLX hR hS h1 h2 h3 (nleq hm hem) (nleq hn hen)
      refine kcx_iR (q := q75) (vx_runV (As := [.int a3, .int 0]) (rest := []) ⟨hx, hb, hml, hown, hts⟩ (mX5_halt l hst D dA ad σ _ x mi a3 0 (.inr q75) m77 n78 hcq75) (cwV 2 hts gL_57 rfl rfl rfl (by decide +kernel) ⟨Nat.le_of_ble_eq_true rfl, Nat.le_of_ble_eq_true rfl⟩) (preVA_of hA hR hS hK hX hLX _) rfl rfl hl.1 rfl (lv_room (Nat.le_of_ble_eq_true rfl)) dL_does_198 ⟨nle hm hem, nle hn hen⟩) hA hR hS (fun ad81 H locs hka hLX hR hS => ?_)
      have e82 := (hka 0 0 rfl (by decide)).1
      have hl : lv_has ls 5 [(0, .ref (ad81 0 0)), (1, .int a2), (2, .int a3), (3, .int a4), (4, .int a5)] := by rw [e82]; exact hl
      have hKA := KA_tr hKA hka (by decide)
      have hm := nadd hm hem
      have hn := nadd hn hen
      cases hf
      exact retx_i hC hKA hLX hR hS (nfin hm) (nfin hn) dL_does_201
    · have hf := if_of_neg hf (fun q => q c74)
      refine lv_iconst (v := 1) hx hb dL_does_193 (by decide) ?_
      refine lv_goto (tgt := 198) hx hb dL_does_194 (by decide) ?_
      rcases xb_of hf with ⟨e84, m85, n86, hcq83, rfl, hem, hen⟩ | ⟨q83, m85, n86, m87, n88, hcq83, hf, hem, hen⟩
      · refine kcx_i (vx_runV (As := [.int a3, .int 1]) (rest := []) ⟨hx, hb, hml, hown, hts⟩ (mX5_halt l hst D dA ad σ _ x mi a3 1 (.inl e84) m85 n86 hcq83) (cwV 2 hts gL_57 rfl rfl rfl (by decide +kernel) ⟨Nat.le_of_ble_eq_true rfl, Nat.le_of_ble_eq_true rfl⟩) (preVA_of hA hR hS hK hX hLX _) rfl rfl hl.1 rfl (lv_room (Nat.le_of_ble_eq_true rfl)) dL_does_198 ⟨nleq hm hem, nleq hn hen⟩) hA hR hS (fun k σ' ad' H1 locs1 E ce q9 eo hEk hka hLX hR hS h1 h2 h3 => ?_) (fun _ _ _ _ _ eo => nomatch eo)
        cases eo
        exact passx hC hE hEk (KA_tr hKA hka (by decide)) hLX hR hS h1 h2 h3 (nleq hm hem) (nleq hn hen)
      refine kcx_iR (q := q83) (vx_runV (As := [.int a3, .int 1]) (rest := []) ⟨hx, hb, hml, hown, hts⟩ (mX5_halt l hst D dA ad σ _ x mi a3 1 (.inr q83) m85 n86 hcq83) (cwV 2 hts gL_57 rfl rfl rfl (by decide +kernel) ⟨Nat.le_of_ble_eq_true rfl, Nat.le_of_ble_eq_true rfl⟩) (preVA_of hA hR hS hK hX hLX _) rfl rfl hl.1 rfl (lv_room (Nat.le_of_ble_eq_true rfl)) dL_does_198 ⟨nle hm hem, nle hn hen⟩) hA hR hS (fun ad89 H locs hka hLX hR hS => ?_)
      have e90 := (hka 0 0 rfl (by decide)).1
      have hl : lv_has ls 5 [(0, .ref (ad89 0 0)), (1, .int a2), (2, .int a3), (3, .int a4), (4, .int a5)] := by rw [e90]; exact hl
      have hKA := KA_tr hKA hka (by decide)
      have hm := nadd hm hem
      have hn := nadd hn hen
      cases hf
      exact retx_i hC hKA hLX hR hS (nfin hm) (nfin hn) dL_does_201
  have hf := if_of_neg hf c8
  by_cases c9 : a2 = 9
  · have hf := if_of_pos hf c9
    refine lv_tableIn (off := 201) (tgt := 202) hx hb dL_does_1 (by rw [c9]; decide) (by rw [c9]; decide) (by rw [c9]; rfl) (by decide) ?_
    refine lv_aload_n hx hb dL_does_202 rfl (lv_at hl 0 rfl) ?_
    refine lv_iload_n hx hb dL_does_203 rfl (lv_at hl 2 rfl) ?_
    rcases xb_of hf with ⟨e92, m93, n94, hcq91, rfl, hem, hen⟩ | ⟨q91, m93, n94, m95, n96, hcq91, hf, hem, hen⟩
    · refine kcx_i (vx_runV (As := [.int a3]) (rest := []) ⟨hx, hb, hml, hown, hts⟩ (mX5_left l hst D dA ad σ _ x mi a3 (.inl e92) m93 n94 hcq91) (cwV 1 hts gL_61 rfl rfl rfl (by decide +kernel) ⟨Nat.le_of_ble_eq_true rfl, Nat.le_of_ble_eq_true rfl⟩) (preVA_of hA hR hS hK hX hLX _) rfl rfl hl.1 rfl (lv_room (Nat.le_of_ble_eq_true rfl)) dL_does_204 ⟨nleq hm hem, nleq hn hen⟩) hA hR hS (fun k σ' ad' H1 locs1 E ce q9 eo hEk hka hLX hR hS h1 h2 h3 => ?_) (fun _ _ _ _ _ eo => nomatch eo)
      cases eo
      exact passx hC hE hEk (KA_tr hKA hka (by decide)) hLX hR hS h1 h2 h3 (nleq hm hem) (nleq hn hen)
    refine kcx_iR (q := q91) (vx_runV (As := [.int a3]) (rest := []) ⟨hx, hb, hml, hown, hts⟩ (mX5_left l hst D dA ad σ _ x mi a3 (.inr q91) m93 n94 hcq91) (cwV 1 hts gL_61 rfl rfl rfl (by decide +kernel) ⟨Nat.le_of_ble_eq_true rfl, Nat.le_of_ble_eq_true rfl⟩) (preVA_of hA hR hS hK hX hLX _) rfl rfl hl.1 rfl (lv_room (Nat.le_of_ble_eq_true rfl)) dL_does_204 ⟨nle hm hem, nle hn hen⟩) hA hR hS (fun ad97 H locs hka hLX hR hS => ?_)
    have e98 := (hka 0 0 rfl (by decide)).1
    have hl : lv_has ls 5 [(0, .ref (ad97 0 0)), (1, .int a2), (2, .int a3), (3, .int a4), (4, .int a5)] := by rw [e98]; exact hl
    have hKA := KA_tr hKA hka (by decide)
    have hm := nadd hm hem
    have hn := nadd hn hen
    cases hf
    exact retx_i hC hKA hLX hR hS (nfin hm) (nfin hn) dL_does_207
  have hf := if_of_neg hf c9
  by_cases c10 : a2 = 10
  · have hf := if_of_pos hf c10
    refine lv_tableIn (off := 207) (tgt := 208) hx hb dL_does_1 (by rw [c10]; decide) (by rw [c10]; decide) (by rw [c10]; rfl) (by decide) ?_
    refine lv_aload_n hx hb dL_does_208 rfl (lv_at hl 0 rfl) ?_
    refine lv_iload_n hx hb dL_does_209 rfl (lv_at hl 2 rfl) ?_
    refine lv_iload_n hx hb dL_does_210 rfl (lv_at hl 3 rfl) ?_
    refine lv_iconst (v := 1) hx hb dL_does_211 (by decide) ?_
    refine lv_icmp_ne (tgt := 219) hx hb dL_does_212 (by decide) (fun c99 => ?_) (fun c99 => ?_)
    · have hf := if_of_pos hf c99
      refine lv_iconst (v := 0) hx hb dL_does_219 (by decide) ?_
      rcases xb_of hf with ⟨e101, m102, n103, hcq100, rfl, hem, hen⟩ | ⟨q100, m102, n103, m104, n105, hcq100, hf, hem, hen⟩
      · refine kcx_i (vx_runV (As := [.int a3, .int 0]) (rest := []) ⟨hx, hb, hml, hown, hts⟩ (mX5_best l hst D dA ad σ _ x mi a3 0 (.inl e101) m102 n103 hcq100) (cwV 2 hts gL_64 rfl rfl rfl (by decide +kernel) ⟨Nat.le_of_ble_eq_true rfl, Nat.le_of_ble_eq_true rfl⟩) (preVA_of hA hR hS hK hX hLX _) rfl rfl hl.1 rfl (lv_room (Nat.le_of_ble_eq_true rfl)) dL_does_220 ⟨nleq hm hem, nleq hn hen⟩) hA hR hS (fun k σ' ad' H1 locs1 E ce q9 eo hEk hka hLX hR hS h1 h2 h3 => ?_) (fun _ _ _ _ _ eo => nomatch eo)
        cases eo
        exact passx hC hE hEk (KA_tr hKA hka (by decide)) hLX hR hS h1 h2 h3 (nleq hm hem) (nleq hn hen)
      refine kcx_iR (q := q100) (vx_runV (As := [.int a3, .int 0]) (rest := []) ⟨hx, hb, hml, hown, hts⟩ (mX5_best l hst D dA ad σ _ x mi a3 0 (.inr q100) m102 n103 hcq100) (cwV 2 hts gL_64 rfl rfl rfl (by decide +kernel) ⟨Nat.le_of_ble_eq_true rfl, Nat.le_of_ble_eq_true rfl⟩) (preVA_of hA hR hS hK hX hLX _) rfl rfl hl.1 rfl (lv_room (Nat.le_of_ble_eq_true rfl)) dL_does_220 ⟨nle hm hem, nle hn hen⟩) hA hR hS (fun ad106 H locs hka hLX hR hS => ?_)
      have e107 := (hka 0 0 rfl (by decide)).1
      have hl : lv_has ls 5 [(0, .ref (ad106 0 0)), (1, .int a2), (2, .int a3), (3, .int a4), (4, .int a5)] := by rw [e107]; exact hl
      have hKA := KA_tr hKA hka (by decide)
      have hm := nadd hm hem
      have hn := nadd hn hen
      cases hf
      exact retx_i hC hKA hLX hR hS (nfin hm) (nfin hn) dL_does_223
    · have hf := if_of_neg hf (fun q => q c99)
      refine lv_iconst (v := 1) hx hb dL_does_215 (by decide) ?_
      refine lv_goto (tgt := 220) hx hb dL_does_216 (by decide) ?_
      rcases xb_of hf with ⟨e109, m110, n111, hcq108, rfl, hem, hen⟩ | ⟨q108, m110, n111, m112, n113, hcq108, hf, hem, hen⟩
      · refine kcx_i (vx_runV (As := [.int a3, .int 1]) (rest := []) ⟨hx, hb, hml, hown, hts⟩ (mX5_best l hst D dA ad σ _ x mi a3 1 (.inl e109) m110 n111 hcq108) (cwV 2 hts gL_64 rfl rfl rfl (by decide +kernel) ⟨Nat.le_of_ble_eq_true rfl, Nat.le_of_ble_eq_true rfl⟩) (preVA_of hA hR hS hK hX hLX _) rfl rfl hl.1 rfl (lv_room (Nat.le_of_ble_eq_true rfl)) dL_does_220 ⟨nleq hm hem, nleq hn hen⟩) hA hR hS (fun k σ' ad' H1 locs1 E ce q9 eo hEk hka hLX hR hS h1 h2 h3 => ?_) (fun _ _ _ _ _ eo => nomatch eo)
        cases eo
        exact passx hC hE hEk (KA_tr hKA hka (by decide)) hLX hR hS h1 h2 h3 (nleq hm hem) (nleq hn hen)
      refine kcx_iR (q := q108) (vx_runV (As := [.int a3, .int 1]) (rest := []) ⟨hx, hb, hml, hown, hts⟩ (mX5_best l hst D dA ad σ _ x mi a3 1 (.inr q108) m110 n111 hcq108) (cwV 2 hts gL_64 rfl rfl rfl (by decide +kernel) ⟨Nat.le_of_ble_eq_true rfl, Nat.le_of_ble_eq_true rfl⟩) (preVA_of hA hR hS hK hX hLX _) rfl rfl hl.1 rfl (lv_room (Nat.le_of_ble_eq_true rfl)) dL_does_220 ⟨nle hm hem, nle hn hen⟩) hA hR hS (fun ad114 H locs hka hLX hR hS => ?_)
      have e115 := (hka 0 0 rfl (by decide)).1
      have hl : lv_has ls 5 [(0, .ref (ad114 0 0)), (1, .int a2), (2, .int a3), (3, .int a4), (4, .int a5)] := by rw [e115]; exact hl
      have hKA := KA_tr hKA hka (by decide)
      have hm := nadd hm hem
      have hn := nadd hn hen
      cases hf
      exact retx_i hC hKA hLX hR hS (nfin hm) (nfin hn) dL_does_223
  have hf := if_of_neg hf c10
  by_cases c11 : a2 = 11
  · have hf := if_of_pos hf c11
    refine lv_tableIn (off := 223) (tgt := 224) hx hb dL_does_1 (by rw [c11]; decide) (by rw [c11]; decide) (by rw [c11]; rfl) (by decide) ?_
    refine lv_aload_n hx hb dL_does_224 rfl (lv_at hl 0 rfl) ?_
    refine lv_iload_n hx hb dL_does_225 rfl (lv_at hl 2 rfl) ?_
    rcases xb_of hf with ⟨e117, m118, n119, hcq116, rfl, hem, hen⟩ | ⟨q116, m118, n119, m120, n121, hcq116, hf, hem, hen⟩
    · refine kcx_i (vx_runV (As := [.int a3]) (rest := []) ⟨hx, hb, hml, hown, hts⟩ (mX5_called l hst D dA ad σ _ x mi a3 (.inl e117) m118 n119 hcq116) (cwV 1 hts gL_67 rfl rfl rfl (by decide +kernel) ⟨Nat.le_of_ble_eq_true rfl, Nat.le_of_ble_eq_true rfl⟩) (preVA_of hA hR hS hK hX hLX _) rfl rfl hl.1 rfl (lv_room (Nat.le_of_ble_eq_true rfl)) dL_does_226 ⟨nleq hm hem, nleq hn hen⟩) hA hR hS (fun k σ' ad' H1 locs1 E ce q9 eo hEk hka hLX hR hS h1 h2 h3 => ?_) (fun _ _ _ _ _ eo => nomatch eo)
      cases eo
      exact passx hC hE hEk (KA_tr hKA hka (by decide)) hLX hR hS h1 h2 h3 (nleq hm hem) (nleq hn hen)
    refine kcx_iR (q := q116) (vx_runV (As := [.int a3]) (rest := []) ⟨hx, hb, hml, hown, hts⟩ (mX5_called l hst D dA ad σ _ x mi a3 (.inr q116) m118 n119 hcq116) (cwV 1 hts gL_67 rfl rfl rfl (by decide +kernel) ⟨Nat.le_of_ble_eq_true rfl, Nat.le_of_ble_eq_true rfl⟩) (preVA_of hA hR hS hK hX hLX _) rfl rfl hl.1 rfl (lv_room (Nat.le_of_ble_eq_true rfl)) dL_does_226 ⟨nle hm hem, nle hn hen⟩) hA hR hS (fun ad122 H locs hka hLX hR hS => ?_)
    have e123 := (hka 0 0 rfl (by decide)).1
    have hl : lv_has ls 5 [(0, .ref (ad122 0 0)), (1, .int a2), (2, .int a3), (3, .int a4), (4, .int a5)] := by rw [e123]; exact hl
    have hKA := KA_tr hKA hka (by decide)
    have hm := nadd hm hem
    have hn := nadd hn hen
    cases hf
    exact retx_i hC hKA hLX hR hS (nfin hm) (nfin hn) dL_does_229
  have hf := if_of_neg hf c11
  by_cases c12 : a2 = 12
  · have hf := if_of_pos hf c12
    refine lv_tableIn (off := 229) (tgt := 230) hx hb dL_does_1 (by rw [c12]; decide) (by rw [c12]; decide) (by rw [c12]; rfl) (by decide) ?_
    refine lv_aload_n hx hb dL_does_230 rfl (lv_at hl 0 rfl) ?_
    refine lv_iload_n hx hb dL_does_231 rfl (lv_at hl 2 rfl) ?_
    rcases xb_of hf with ⟨e125, m126, n127, hcq124, rfl, hem, hen⟩ | ⟨q124, m126, n127, m128, n129, hcq124, hf, hem, hen⟩
    · refine kcx_i (vx_runV (As := [.int a3]) (rest := []) ⟨hx, hb, hml, hown, hts⟩ (mX5_hasFailed l hst D dA ad σ _ x mi a3 (.inl e125) m126 n127 hcq124) (cwV 1 hts gL_70 rfl rfl rfl (by decide +kernel) ⟨Nat.le_of_ble_eq_true rfl, Nat.le_of_ble_eq_true rfl⟩) (preVA_of hA hR hS hK hX hLX _) rfl rfl hl.1 rfl (lv_room (Nat.le_of_ble_eq_true rfl)) dL_does_232 ⟨nleq hm hem, nleq hn hen⟩) hA hR hS (fun k σ' ad' H1 locs1 E ce q9 eo hEk hka hLX hR hS h1 h2 h3 => ?_) (fun _ _ _ _ _ eo => nomatch eo)
      cases eo
      exact passx hC hE hEk (KA_tr hKA hka (by decide)) hLX hR hS h1 h2 h3 (nleq hm hem) (nleq hn hen)
    refine kcx_iR (q := q124) (vx_runV (As := [.int a3]) (rest := []) ⟨hx, hb, hml, hown, hts⟩ (mX5_hasFailed l hst D dA ad σ _ x mi a3 (.inr q124) m126 n127 hcq124) (cwV 1 hts gL_70 rfl rfl rfl (by decide +kernel) ⟨Nat.le_of_ble_eq_true rfl, Nat.le_of_ble_eq_true rfl⟩) (preVA_of hA hR hS hK hX hLX _) rfl rfl hl.1 rfl (lv_room (Nat.le_of_ble_eq_true rfl)) dL_does_232 ⟨nle hm hem, nle hn hen⟩) hA hR hS (fun ad130 H locs hka hLX hR hS => ?_)
    have e131 := (hka 0 0 rfl (by decide)).1
    have hl : lv_has ls 5 [(0, .ref (ad130 0 0)), (1, .int a2), (2, .int a3), (3, .int a4), (4, .int a5)] := by rw [e131]; exact hl
    have hKA := KA_tr hKA hka (by decide)
    have hm := nadd hm hem
    have hn := nadd hn hen
    refine lv_if_eq (tgt := 242) hx hb dL_does_235 (by decide) (fun c132 => ?_) (fun c132 => ?_)
    · have hf := if_of_pos hf c132
      refine lv_iconst (v := 0) hx hb dL_does_242 (by decide) ?_
      cases hf
      exact retx_i hC hKA hLX hR hS (nfin hm) (nfin hn) dL_does_243
    · have hf := if_of_neg hf c132
      refine lv_iconst (v := 1) hx hb dL_does_238 (by decide) ?_
      refine lv_goto (tgt := 243) hx hb dL_does_239 (by decide) ?_
      cases hf
      exact retx_i hC hKA hLX hR hS (nfin hm) (nfin hn) dL_does_243
  have hf := if_of_neg hf c12
  by_cases c13 : a2 = 13
  · have hf := if_of_pos hf c13
    refine lv_tableIn (off := 243) (tgt := 244) hx hb dL_does_1 (by rw [c13]; decide) (by rw [c13]; decide) (by rw [c13]; rfl) (by decide) ?_
    refine lv_aload_n hx hb dL_does_244 rfl (lv_at hl 0 rfl) ?_
    refine lv_iload_n hx hb dL_does_245 rfl (lv_at hl 2 rfl) ?_
    refine lv_iload_n hx hb dL_does_246 rfl (lv_at hl 3 rfl) ?_
    rcases xb_of hf with ⟨e134, m135, n136, hcq133, rfl, hem, hen⟩ | ⟨q133, m135, n136, m137, n138, hcq133, hf, hem, hen⟩
    · refine kcx_i (vx_runV (As := [.int a3, .int a4]) (rest := []) ⟨hx, hb, hml, hown, hts⟩ (mX5_position l hst D dA ad σ _ x mi a3 a4 (.inl e134) m135 n136 hcq133) (cwV 2 hts gL_74 rfl rfl rfl (by decide +kernel) ⟨Nat.le_of_ble_eq_true rfl, Nat.le_of_ble_eq_true rfl⟩) (preVA_of hA hR hS hK hX hLX _) rfl rfl hl.1 rfl (lv_room (Nat.le_of_ble_eq_true rfl)) dL_does_247 ⟨nleq hm hem, nleq hn hen⟩) hA hR hS (fun k σ' ad' H1 locs1 E ce q9 eo hEk hka hLX hR hS h1 h2 h3 => ?_) (fun _ _ _ _ _ eo => nomatch eo)
      cases eo
      exact passx hC hE hEk (KA_tr hKA hka (by decide)) hLX hR hS h1 h2 h3 (nleq hm hem) (nleq hn hen)
    refine kcx_iR (q := q133) (vx_runV (As := [.int a3, .int a4]) (rest := []) ⟨hx, hb, hml, hown, hts⟩ (mX5_position l hst D dA ad σ _ x mi a3 a4 (.inr q133) m135 n136 hcq133) (cwV 2 hts gL_74 rfl rfl rfl (by decide +kernel) ⟨Nat.le_of_ble_eq_true rfl, Nat.le_of_ble_eq_true rfl⟩) (preVA_of hA hR hS hK hX hLX _) rfl rfl hl.1 rfl (lv_room (Nat.le_of_ble_eq_true rfl)) dL_does_247 ⟨nle hm hem, nle hn hen⟩) hA hR hS (fun ad139 H locs hka hLX hR hS => ?_)
    have e140 := (hka 0 0 rfl (by decide)).1
    have hl : lv_has ls 5 [(0, .ref (ad139 0 0)), (1, .int a2), (2, .int a3), (3, .int a4), (4, .int a5)] := by rw [e140]; exact hl
    have hKA := KA_tr hKA hka (by decide)
    have hm := nadd hm hem
    have hn := nadd hn hen
    cases hf
    exact retx_i hC hKA hLX hR hS (nfin hm) (nfin hn) dL_does_250
  have hf := if_of_neg hf c13
  by_cases c14 : a2 = 14
  · have hf := if_of_pos hf c14
    refine lv_tableIn (off := 250) (tgt := 251) hx hb dL_does_1 (by rw [c14]; decide) (by rw [c14]; decide) (by rw [c14]; rfl) (by decide) ?_
    refine lv_aload_n hx hb dL_does_251 rfl (lv_at hl 0 rfl) ?_
    refine lv_iload_n hx hb dL_does_252 rfl (lv_at hl 2 rfl) ?_
    rcases xb_of hf with ⟨e142, m143, n144, hcq141, rfl, hem, hen⟩ | ⟨q141, m143, n144, m145, n146, hcq141, hf, hem, hen⟩
    · refine kcx_i (vx_runV (As := [.int a3]) (rest := []) ⟨hx, hb, hml, hown, hts⟩ (mX5_cash l hst D dA ad σ _ x mi a3 (.inl e142) m143 n144 hcq141) (cwV 1 hts gL_77 rfl rfl rfl (by decide +kernel) ⟨Nat.le_of_ble_eq_true rfl, Nat.le_of_ble_eq_true rfl⟩) (preVA_of hA hR hS hK hX hLX _) rfl rfl hl.1 rfl (lv_room (Nat.le_of_ble_eq_true rfl)) dL_does_253 ⟨nleq hm hem, nleq hn hen⟩) hA hR hS (fun k σ' ad' H1 locs1 E ce q9 eo hEk hka hLX hR hS h1 h2 h3 => ?_) (fun _ _ _ _ _ eo => nomatch eo)
      cases eo
      exact passx hC hE hEk (KA_tr hKA hka (by decide)) hLX hR hS h1 h2 h3 (nleq hm hem) (nleq hn hen)
    refine kcx_iR (q := q141) (vx_runV (As := [.int a3]) (rest := []) ⟨hx, hb, hml, hown, hts⟩ (mX5_cash l hst D dA ad σ _ x mi a3 (.inr q141) m143 n144 hcq141) (cwV 1 hts gL_77 rfl rfl rfl (by decide +kernel) ⟨Nat.le_of_ble_eq_true rfl, Nat.le_of_ble_eq_true rfl⟩) (preVA_of hA hR hS hK hX hLX _) rfl rfl hl.1 rfl (lv_room (Nat.le_of_ble_eq_true rfl)) dL_does_253 ⟨nle hm hem, nle hn hen⟩) hA hR hS (fun ad147 H locs hka hLX hR hS => ?_)
    have e148 := (hka 0 0 rfl (by decide)).1
    have hl : lv_has ls 5 [(0, .ref (ad147 0 0)), (1, .int a2), (2, .int a3), (3, .int a4), (4, .int a5)] := by rw [e148]; exact hl
    have hKA := KA_tr hKA hka (by decide)
    have hm := nadd hm hem
    have hn := nadd hn hen
    cases hf
    exact retx_i hC hKA hLX hR hS (nfin hm) (nfin hn) dL_does_256
  have hf := if_of_neg hf c14
  by_cases c15 : a2 = 15
  · have hf := if_of_pos hf c15
    refine lv_tableIn (off := 256) (tgt := 257) hx hb dL_does_1 (by rw [c15]; decide) (by rw [c15]; decide) (by rw [c15]; rfl) (by decide) ?_
    refine lv_aload_n hx hb dL_does_257 rfl (lv_at hl 0 rfl) ?_
    refine lv_iload_n hx hb dL_does_258 rfl (lv_at hl 2 rfl) ?_
    rcases xb_of hf with ⟨e150, m151, n152, hcq149, rfl, hem, hen⟩ | ⟨q149, m151, n152, m153, n154, hcq149, hf, hem, hen⟩
    · refine kcx_i (vx_runV (As := [.int a3]) (rest := []) ⟨hx, hb, hml, hown, hts⟩ (mX5_equity l hst D dA ad σ _ x mi a3 (.inl e150) m151 n152 hcq149) (cwV 1 hts gL_80 rfl rfl rfl (by decide +kernel) ⟨Nat.le_of_ble_eq_true rfl, Nat.le_of_ble_eq_true rfl⟩) (preVA_of hA hR hS hK hX hLX _) rfl rfl hl.1 rfl (lv_room (Nat.le_of_ble_eq_true rfl)) dL_does_259 ⟨nleq hm hem, nleq hn hen⟩) hA hR hS (fun k σ' ad' H1 locs1 E ce q9 eo hEk hka hLX hR hS h1 h2 h3 => ?_) (fun _ _ _ _ _ eo => nomatch eo)
      cases eo
      exact passx hC hE hEk (KA_tr hKA hka (by decide)) hLX hR hS h1 h2 h3 (nleq hm hem) (nleq hn hen)
    refine kcx_iR (q := q149) (vx_runV (As := [.int a3]) (rest := []) ⟨hx, hb, hml, hown, hts⟩ (mX5_equity l hst D dA ad σ _ x mi a3 (.inr q149) m151 n152 hcq149) (cwV 1 hts gL_80 rfl rfl rfl (by decide +kernel) ⟨Nat.le_of_ble_eq_true rfl, Nat.le_of_ble_eq_true rfl⟩) (preVA_of hA hR hS hK hX hLX _) rfl rfl hl.1 rfl (lv_room (Nat.le_of_ble_eq_true rfl)) dL_does_259 ⟨nle hm hem, nle hn hen⟩) hA hR hS (fun ad155 H locs hka hLX hR hS => ?_)
    have e156 := (hka 0 0 rfl (by decide)).1
    have hl : lv_has ls 5 [(0, .ref (ad155 0 0)), (1, .int a2), (2, .int a3), (3, .int a4), (4, .int a5)] := by rw [e156]; exact hl
    have hKA := KA_tr hKA hka (by decide)
    have hm := nadd hm hem
    have hn := nadd hn hen
    cases hf
    exact retx_i hC hKA hLX hR hS (nfin hm) (nfin hn) dL_does_262
  have hf := if_of_neg hf c15
  by_cases c16 : a2 = 16
  · have hf := if_of_pos hf c16
    refine lv_tableIn (off := 262) (tgt := 263) hx hb dL_does_1 (by rw [c16]; decide) (by rw [c16]; decide) (by rw [c16]; rfl) (by decide) ?_
    refine lv_aload_n hx hb dL_does_263 rfl (lv_at hl 0 rfl) ?_
    refine lv_iload_n hx hb dL_does_264 rfl (lv_at hl 2 rfl) ?_
    rcases xb_of hf with ⟨e158, m159, n160, hcq157, rfl, hem, hen⟩ | ⟨q157, m159, n160, m161, n162, hcq157, hf, hem, hen⟩
    · refine kcx_i (vx_runV (As := [.int a3]) (rest := []) ⟨hx, hb, hml, hown, hts⟩ (mX5_equityByTrades l hst D dA ad σ _ x mi a3 (.inl e158) m159 n160 hcq157) (cwV 1 hts gL_83 rfl rfl rfl (by decide +kernel) ⟨Nat.le_of_ble_eq_true rfl, Nat.le_of_ble_eq_true rfl⟩) (preVA_of hA hR hS hK hX hLX _) rfl rfl hl.1 rfl (lv_room (Nat.le_of_ble_eq_true rfl)) dL_does_265 ⟨nleq hm hem, nleq hn hen⟩) hA hR hS (fun k σ' ad' H1 locs1 E ce q9 eo hEk hka hLX hR hS h1 h2 h3 => ?_) (fun _ _ _ _ _ eo => nomatch eo)
      cases eo
      exact passx hC hE hEk (KA_tr hKA hka (by decide)) hLX hR hS h1 h2 h3 (nleq hm hem) (nleq hn hen)
    refine kcx_iR (q := q157) (vx_runV (As := [.int a3]) (rest := []) ⟨hx, hb, hml, hown, hts⟩ (mX5_equityByTrades l hst D dA ad σ _ x mi a3 (.inr q157) m159 n160 hcq157) (cwV 1 hts gL_83 rfl rfl rfl (by decide +kernel) ⟨Nat.le_of_ble_eq_true rfl, Nat.le_of_ble_eq_true rfl⟩) (preVA_of hA hR hS hK hX hLX _) rfl rfl hl.1 rfl (lv_room (Nat.le_of_ble_eq_true rfl)) dL_does_265 ⟨nle hm hem, nle hn hen⟩) hA hR hS (fun ad163 H locs hka hLX hR hS => ?_)
    have e164 := (hka 0 0 rfl (by decide)).1
    have hl : lv_has ls 5 [(0, .ref (ad163 0 0)), (1, .int a2), (2, .int a3), (3, .int a4), (4, .int a5)] := by rw [e164]; exact hl
    have hKA := KA_tr hKA hka (by decide)
    have hm := nadd hm hem
    have hn := nadd hn hen
    cases hf
    exact retx_i hC hKA hLX hR hS (nfin hm) (nfin hn) dL_does_268
  have hf := if_of_neg hf c16
  by_cases c17 : a2 = 17
  · have hf := if_of_pos hf c17
    refine lv_tableIn (off := 268) (tgt := 269) hx hb dL_does_1 (by rw [c17]; decide) (by rw [c17]; decide) (by rw [c17]; rfl) (by decide) ?_
    refine lv_aload_n hx hb dL_does_269 rfl (lv_at hl 0 rfl) ?_
    refine lv_iload_n hx hb dL_does_270 rfl (lv_at hl 2 rfl) ?_
    rcases xb_of hf with ⟨e166, m167, n168, hcq165, rfl, hem, hen⟩ | ⟨q165, m167, n168, m169, n170, hcq165, hf, hem, hen⟩
    · refine kcx_i (vx_runV (As := [.int a3]) (rest := []) ⟨hx, hb, hml, hown, hts⟩ (mX5_margin l hst D dA ad σ _ x mi a3 (.inl e166) m167 n168 hcq165) (cwV 1 hts gL_86 rfl rfl rfl (by decide +kernel) ⟨Nat.le_of_ble_eq_true rfl, Nat.le_of_ble_eq_true rfl⟩) (preVA_of hA hR hS hK hX hLX _) rfl rfl hl.1 rfl (lv_room (Nat.le_of_ble_eq_true rfl)) dL_does_271 ⟨nleq hm hem, nleq hn hen⟩) hA hR hS (fun k σ' ad' H1 locs1 E ce q9 eo hEk hka hLX hR hS h1 h2 h3 => ?_) (fun _ _ _ _ _ eo => nomatch eo)
      cases eo
      exact passx hC hE hEk (KA_tr hKA hka (by decide)) hLX hR hS h1 h2 h3 (nleq hm hem) (nleq hn hen)
    refine kcx_iR (q := q165) (vx_runV (As := [.int a3]) (rest := []) ⟨hx, hb, hml, hown, hts⟩ (mX5_margin l hst D dA ad σ _ x mi a3 (.inr q165) m167 n168 hcq165) (cwV 1 hts gL_86 rfl rfl rfl (by decide +kernel) ⟨Nat.le_of_ble_eq_true rfl, Nat.le_of_ble_eq_true rfl⟩) (preVA_of hA hR hS hK hX hLX _) rfl rfl hl.1 rfl (lv_room (Nat.le_of_ble_eq_true rfl)) dL_does_271 ⟨nle hm hem, nle hn hen⟩) hA hR hS (fun ad171 H locs hka hLX hR hS => ?_)
    have e172 := (hka 0 0 rfl (by decide)).1
    have hl : lv_has ls 5 [(0, .ref (ad171 0 0)), (1, .int a2), (2, .int a3), (3, .int a4), (4, .int a5)] := by rw [e172]; exact hl
    have hKA := KA_tr hKA hka (by decide)
    have hm := nadd hm hem
    have hn := nadd hn hen
    cases hf
    exact retx_i hC hKA hLX hR hS (nfin hm) (nfin hn) dL_does_274
  have hf := if_of_neg hf c17
  by_cases c18 : a2 = 18
  · have hf := if_of_pos hf c18
    refine lv_tableIn (off := 274) (tgt := 275) hx hb dL_does_1 (by rw [c18]; decide) (by rw [c18]; decide) (by rw [c18]; rfl) (by decide) ?_
    refine lv_aload_n hx hb dL_does_275 rfl (lv_at hl 0 rfl) ?_
    refine lv_iload_n hx hb dL_does_276 rfl (lv_at hl 2 rfl) ?_
    rcases xb_of hf with ⟨e174, m175, n176, hcq173, rfl, hem, hen⟩ | ⟨q173, m175, n176, m177, n178, hcq173, hf, hem, hen⟩
    · refine kcx_i (vx_runV (As := [.int a3]) (rest := []) ⟨hx, hb, hml, hown, hts⟩ (mX5_haircut l hst D dA ad σ _ x mi a3 (.inl e174) m175 n176 hcq173) (cwV 1 hts gL_89 rfl rfl rfl (by decide +kernel) ⟨Nat.le_of_ble_eq_true rfl, Nat.le_of_ble_eq_true rfl⟩) (preVA_of hA hR hS hK hX hLX _) rfl rfl hl.1 rfl (lv_room (Nat.le_of_ble_eq_true rfl)) dL_does_277 ⟨nleq hm hem, nleq hn hen⟩) hA hR hS (fun k σ' ad' H1 locs1 E ce q9 eo hEk hka hLX hR hS h1 h2 h3 => ?_) (fun _ _ _ _ _ eo => nomatch eo)
      cases eo
      exact passx hC hE hEk (KA_tr hKA hka (by decide)) hLX hR hS h1 h2 h3 (nleq hm hem) (nleq hn hen)
    refine kcx_iR (q := q173) (vx_runV (As := [.int a3]) (rest := []) ⟨hx, hb, hml, hown, hts⟩ (mX5_haircut l hst D dA ad σ _ x mi a3 (.inr q173) m175 n176 hcq173) (cwV 1 hts gL_89 rfl rfl rfl (by decide +kernel) ⟨Nat.le_of_ble_eq_true rfl, Nat.le_of_ble_eq_true rfl⟩) (preVA_of hA hR hS hK hX hLX _) rfl rfl hl.1 rfl (lv_room (Nat.le_of_ble_eq_true rfl)) dL_does_277 ⟨nle hm hem, nle hn hen⟩) hA hR hS (fun ad179 H locs hka hLX hR hS => ?_)
    have e180 := (hka 0 0 rfl (by decide)).1
    have hl : lv_has ls 5 [(0, .ref (ad179 0 0)), (1, .int a2), (2, .int a3), (3, .int a4), (4, .int a5)] := by rw [e180]; exact hl
    have hKA := KA_tr hKA hka (by decide)
    have hm := nadd hm hem
    have hn := nadd hn hen
    cases hf
    exact retx_i hC hKA hLX hR hS (nfin hm) (nfin hn) dL_does_280
  have hf := if_of_neg hf c18
  by_cases c19 : a2 = 19
  · have hf := if_of_pos hf c19
    refine lv_tableIn (off := 280) (tgt := 281) hx hb dL_does_1 (by rw [c19]; decide) (by rw [c19]; decide) (by rw [c19]; rfl) (by decide) ?_
    refine lv_aload_n hx hb dL_does_281 rfl (lv_at hl 0 rfl) ?_
    refine lv_iload_n hx hb dL_does_282 rfl (lv_at hl 2 rfl) ?_
    rcases xb_of hf with ⟨e182, m183, n184, hcq181, rfl, hem, hen⟩ | ⟨q181, m183, n184, m185, n186, hcq181, hf, hem, hen⟩
    · refine kcx_i (vx_runV (As := [.int a3]) (rest := []) ⟨hx, hb, hml, hown, hts⟩ (mX5_collateral l hst D dA ad σ _ x mi a3 (.inl e182) m183 n184 hcq181) (cwV 1 hts gL_92 rfl rfl rfl (by decide +kernel) ⟨Nat.le_of_ble_eq_true rfl, Nat.le_of_ble_eq_true rfl⟩) (preVA_of hA hR hS hK hX hLX _) rfl rfl hl.1 rfl (lv_room (Nat.le_of_ble_eq_true rfl)) dL_does_283 ⟨nleq hm hem, nleq hn hen⟩) hA hR hS (fun k σ' ad' H1 locs1 E ce q9 eo hEk hka hLX hR hS h1 h2 h3 => ?_) (fun _ _ _ _ _ eo => nomatch eo)
      cases eo
      exact passx hC hE hEk (KA_tr hKA hka (by decide)) hLX hR hS h1 h2 h3 (nleq hm hem) (nleq hn hen)
    refine kcx_iR (q := q181) (vx_runV (As := [.int a3]) (rest := []) ⟨hx, hb, hml, hown, hts⟩ (mX5_collateral l hst D dA ad σ _ x mi a3 (.inr q181) m183 n184 hcq181) (cwV 1 hts gL_92 rfl rfl rfl (by decide +kernel) ⟨Nat.le_of_ble_eq_true rfl, Nat.le_of_ble_eq_true rfl⟩) (preVA_of hA hR hS hK hX hLX _) rfl rfl hl.1 rfl (lv_room (Nat.le_of_ble_eq_true rfl)) dL_does_283 ⟨nle hm hem, nle hn hen⟩) hA hR hS (fun ad187 H locs hka hLX hR hS => ?_)
    have e188 := (hka 0 0 rfl (by decide)).1
    have hl : lv_has ls 5 [(0, .ref (ad187 0 0)), (1, .int a2), (2, .int a3), (3, .int a4), (4, .int a5)] := by rw [e188]; exact hl
    have hKA := KA_tr hKA hka (by decide)
    have hm := nadd hm hem
    have hn := nadd hn hen
    cases hf
    exact retx_i hC hKA hLX hR hS (nfin hm) (nfin hn) dL_does_286
  have hf := if_of_neg hf c19
  by_cases c20 : a2 = 20
  · have hf := if_of_pos hf c20
    refine lv_tableIn (off := 286) (tgt := 287) hx hb dL_does_1 (by rw [c20]; decide) (by rw [c20]; decide) (by rw [c20]; rfl) (by decide) ?_
    refine lv_aload_n hx hb dL_does_287 rfl (lv_at hl 0 rfl) ?_
    refine lv_iload_n hx hb dL_does_288 rfl (lv_at hl 2 rfl) ?_
    rcases xb_of hf with ⟨e190, m191, n192, hcq189, rfl, hem, hen⟩ | ⟨q189, m191, n192, m193, n194, hcq189, hf, hem, hen⟩
    · refine kcx_i (vx_runV (As := [.int a3]) (rest := []) ⟨hx, hb, hml, hown, hts⟩ (mX5_free l hst D dA ad σ _ x mi a3 (.inl e190) m191 n192 hcq189) (cwV 1 hts gL_95 rfl rfl rfl (by decide +kernel) ⟨Nat.le_of_ble_eq_true rfl, Nat.le_of_ble_eq_true rfl⟩) (preVA_of hA hR hS hK hX hLX _) rfl rfl hl.1 rfl (lv_room (Nat.le_of_ble_eq_true rfl)) dL_does_289 ⟨nleq hm hem, nleq hn hen⟩) hA hR hS (fun k σ' ad' H1 locs1 E ce q9 eo hEk hka hLX hR hS h1 h2 h3 => ?_) (fun _ _ _ _ _ eo => nomatch eo)
      cases eo
      exact passx hC hE hEk (KA_tr hKA hka (by decide)) hLX hR hS h1 h2 h3 (nleq hm hem) (nleq hn hen)
    refine kcx_iR (q := q189) (vx_runV (As := [.int a3]) (rest := []) ⟨hx, hb, hml, hown, hts⟩ (mX5_free l hst D dA ad σ _ x mi a3 (.inr q189) m191 n192 hcq189) (cwV 1 hts gL_95 rfl rfl rfl (by decide +kernel) ⟨Nat.le_of_ble_eq_true rfl, Nat.le_of_ble_eq_true rfl⟩) (preVA_of hA hR hS hK hX hLX _) rfl rfl hl.1 rfl (lv_room (Nat.le_of_ble_eq_true rfl)) dL_does_289 ⟨nle hm hem, nle hn hen⟩) hA hR hS (fun ad195 H locs hka hLX hR hS => ?_)
    have e196 := (hka 0 0 rfl (by decide)).1
    have hl : lv_has ls 5 [(0, .ref (ad195 0 0)), (1, .int a2), (2, .int a3), (3, .int a4), (4, .int a5)] := by rw [e196]; exact hl
    have hKA := KA_tr hKA hka (by decide)
    have hm := nadd hm hem
    have hn := nadd hn hen
    cases hf
    exact retx_i hC hKA hLX hR hS (nfin hm) (nfin hn) dL_does_292
  have hf := if_of_neg hf c20
  refine lv_tableOut (tgt := 293) hx hb dL_does_1 (tbl20 (fun k hk => by
    match k, hk with
    | 0, _ => exact c0
    | 1, _ => exact c1
    | 2, _ => exact c2
    | 3, _ => exact c3
    | 4, _ => exact c4
    | 5, _ => exact c5
    | 6, _ => exact c6
    | 7, _ => exact c7
    | 8, _ => exact c8
    | 9, _ => exact c9
    | 10, _ => exact c10
    | 11, _ => exact c11
    | 12, _ => exact c12
    | 13, _ => exact c13
    | 14, _ => exact c14
    | 15, _ => exact c15
    | 16, _ => exact c16
    | 17, _ => exact c17
    | 18, _ => exact c18
    | 19, _ => exact c19
    | 20, _ => exact c20
    | k + 21, hk => exact absurd hk (by omega))) (by decide) ?_
  refine lv_aload_n hx hb dL_does_293 rfl (lv_at hl 0 rfl) ?_
  refine lv_iload_n hx hb dL_does_294 rfl (lv_at hl 2 rfl) ?_
  rcases xb_of hf with ⟨e198, m199, n200, hcq197, rfl, hem, hen⟩ | ⟨q197, m199, n200, m201, n202, hcq197, hf, hem, hen⟩
  · refine kcx_i (vx_runV (As := [.int a3]) (rest := []) ⟨hx, hb, hml, hown, hts⟩ (mX5_share l hst D dA ad σ _ x mi a3 (.inl e198) m199 n200 hcq197) (cwV 1 hts gL_98 rfl rfl rfl (by decide +kernel) ⟨Nat.le_of_ble_eq_true rfl, Nat.le_of_ble_eq_true rfl⟩) (preVA_of hA hR hS hK hX hLX _) rfl rfl hl.1 rfl (lv_room (Nat.le_of_ble_eq_true rfl)) dL_does_295 ⟨nleq hm hem, nleq hn hen⟩) hA hR hS (fun k σ' ad' H1 locs1 E ce q9 eo hEk hka hLX hR hS h1 h2 h3 => ?_) (fun _ _ _ _ _ eo => nomatch eo)
    cases eo
    exact passx hC hE hEk (KA_tr hKA hka (by decide)) hLX hR hS h1 h2 h3 (nleq hm hem) (nleq hn hen)
  refine kcx_iR (q := q197) (vx_runV (As := [.int a3]) (rest := []) ⟨hx, hb, hml, hown, hts⟩ (mX5_share l hst D dA ad σ _ x mi a3 (.inr q197) m199 n200 hcq197) (cwV 1 hts gL_98 rfl rfl rfl (by decide +kernel) ⟨Nat.le_of_ble_eq_true rfl, Nat.le_of_ble_eq_true rfl⟩) (preVA_of hA hR hS hK hX hLX _) rfl rfl hl.1 rfl (lv_room (Nat.le_of_ble_eq_true rfl)) dL_does_295 ⟨nle hm hem, nle hn hen⟩) hA hR hS (fun ad203 H locs hka hLX hR hS => ?_)
  have e204 := (hka 0 0 rfl (by decide)).1
  have hl : lv_has ls 5 [(0, .ref (ad203 0 0)), (1, .int a2), (2, .int a3), (3, .int a4), (4, .int a5)] := by rw [e204]; exact hl
  have hKA := KA_tr hKA hka (by decide)
  have hm := nadd hm hem
  have hn := nadd hn hen
  cases hf
  exact retx_i hC hKA hLX hR hS (nfin hm) (nfin hn) dL_does_298
def xcode : Nat → Option Int32
  | 1 => some (-2000000002)
  | 2 => some (-2000000003)
  | 3 => some (-2000000001)
  | 4 => some (-2000000004)
  | _ => none
def fL_call (σ : St) (p1 p2 p3 p4 : Int32) : Option ((Int32 × St) × Nat × Nat) := match fL_does σ p1 p2 p3 p4 with
  | some (.inr q, m, n) => some (q, m, n)
  | some (.inl q, m, n) => match xcode q.1 with
    | some z => some ((z, q.2), m, n)
    | none => none
  | none => none
theorem fL_call_of {σ : St} {p1 p2 p3 p4 z : Int32} {σ' : St} {mc ms : Nat} (h : fL_call σ p1 p2 p3 p4 = some ((z, σ'), mc, ms)) : fL_does σ p1 p2 p3 p4 = some (.inr (z, σ'), mc, ms) ∨ ∃ k, fL_does σ p1 p2 p3 p4 = some (.inl (k, σ'), mc, ms) ∧ xcode k = some z := by
  unfold fL_call at h
  split at h
  · rename_i q m n e
    cases h
    exact Or.inl e
  · rename_i q m n e
    split at h
    · rename_i z' e'
      cases h
      exact Or.inr ⟨q.1, e, e'⟩
    · cases h
  · cases h
set_option maxHeartbeats 4000000 in
set_option maxRecDepth 100000 in
theorem mL_call (l : Launch) (hst : l.stackTraces = false) (D : va_G) (dA : Nat → ClassId) (ad : Nat → Nat → Nat) (σ : St) (sz x mi : Nat) (p1 p2 p3 p4 : Int32) (z : Int32) (σ' : St) (mc ms : Nat) (hf : fL_call σ p1 p2 p3 p4 = some ((z, σ'), mc, ms)) : Met l yL_call (WSh yL_call cL_call 6 (some .int) [(0, 9, 10, 15), (0, 9, 15, 18), (0, 9, 20, 21), (0, 9, 25, 24)]) ({ frames := 12, cells := mc, slots := ms, locals := 300 } : Room) (va_Pc [.ref (ad 0 0), .int p1, .int p2, .int p3, .int p4] (PreA D dA ad σ x mi sz)) (va_Qi (fun (v : Int32) (ad' : Nat → Nat → Nat) => v = z ∧ KA [13, 15] ad ad' σ σ' ∧ LX ad' σ' x) (fun ad' t => HC D dA (WA ad (cvC σ) sz) ad' σ' t.heap) (WA ad (cvC σ) sz)) mc ms (WA ad (cvC σ) sz) := by
  refine meth_of (by decide) (Nat.le_of_ble_eq_true rfl) ?_
  intro p e s m below meth c ls hC htab hB hl
  obtain ⟨rfl, hR, hK, hX, hLX⟩ := hB
  have hN := hX.2.2.1.2
  have hA : ∀ q : Nat, s.heap.size ≤ q → WA ad (cvC σ) s.heap.size q := fun q h => Or.inr h
  have hR := WW_fit (B := WA ad (cvC σ) s.heap.size) hR (fun f i h => WA_in h)
  have hS : va_S (WA ad (cvC σ) s.heap.size) s.heap s.heap [] := va_S.rf
  generalize WA ad (cvC σ) s.heap.size = A0 at hA hR hS hX ⊢
  have hC : CTX p s m _ meth c cL_call 6 RL (some .int) := hC
  obtain ⟨hx, hb, hml, hown, hts, hr, hlk⟩ := id hC
  have hl : lv_has ls 6 [(0, .ref (ad 0 0)), (1, .int p1), (2, .int p2), (3, .int p3), (4, .int p4)] := hl
  have hcap : 0 + mc ≤ mc := Nat.le_of_eq (Nat.zero_add _)
  have hsap : 0 + ms ≤ ms := Nat.le_of_eq (Nat.zero_add _)
  have hKA0 : KA [13, 15] ad ad σ σ := KA_rf _ _ _
  refine lv_aload_n hx hb dL_call_0 rfl (lv_at hl 0 rfl) ?_
  refine lv_iload_n hx hb dL_call_1 rfl (lv_at hl 1 rfl) ?_
  refine lv_iload_n hx hb dL_call_2 rfl (lv_at hl 2 rfl) ?_
  refine lv_iload_n hx hb dL_call_3 rfl (lv_at hl 3 rfl) ?_
  refine lv_iload hx hb dL_call_4 (lv_at hl 4 rfl) ?_
  rcases fL_call_of hf with hc | ⟨k0, hc, hz⟩
  · refine kcx_iR (q := (z, σ')) (vx_runS (As := [.ref (ad 0 0), .int p1, .int p2, .int p3, .int p4]) (rest := []) ⟨hx, hb, hml, hown, hts⟩ (mL_does l hst D dA ad σ _ x mi p1 p2 p3 p4 (.inr (z, σ')) mc ms hc) (va_cwS 5 hts gL_9 rfl rfl rfl (by decide +kernel) ⟨Nat.le_of_ble_eq_true rfl, Nat.le_of_ble_eq_true rfl⟩) (preSA_of hA hR hS hK hX hLX _) rfl rfl hl.1 rfl (lv_room (Nat.le_of_ble_eq_true rfl)) dL_call_6 ⟨hcap, hsap⟩) hA hR hS (fun ad' H locs hka hLX hR hS => ?_)
    exact reta_i hC hka hLX hR hS hcap hsap dL_call_9
  refine kcx_i (vx_runS (As := [.ref (ad 0 0), .int p1, .int p2, .int p3, .int p4]) (rest := []) ⟨hx, hb, hml, hown, hts⟩ (mL_does l hst D dA ad σ _ x mi p1 p2 p3 p4 (.inl (k0, σ')) mc ms hc) (va_cwS 5 hts gL_9 rfl rfl rfl (by decide +kernel) ⟨Nat.le_of_ble_eq_true rfl, Nat.le_of_ble_eq_true rfl⟩) (preSA_of hA hR hS hK hX hLX _) rfl rfl hl.1 rfl (lv_room (Nat.le_of_ble_eq_true rfl)) dL_call_6 ⟨hcap, hsap⟩) hA hR hS (fun k σ1 ad' H1 locs1 E ce q9 eo hEk hka hLX hR hS h1 h2 h3 => ?_) (fun _ _ _ _ _ eo => nomatch eo)
  cases eo
  subst hEk
  have hk : k0 = 1 ∨ k0 = 2 ∨ k0 = 3 ∨ k0 = 4 := by
    match k0, hz with
    | 0, hz => cases hz
    | 1, _ => exact Or.inl rfl
    | 2, _ => exact Or.inr (Or.inl rfl)
    | 3, _ => exact Or.inr (Or.inr (Or.inl rfl))
    | 4, _ => exact Or.inr (Or.inr (Or.inr rfl))
    | k + 5, hz => cases hz
  rcases hk with rfl | rfl | rfl | rfl
  · cases hz
    refine vx_catch (E := exN 1) (name := exN 1) hown [⟨0, 9, 10, 15⟩] ⟨0, 9, 15, 18⟩ [⟨0, 9, 20, 21⟩, ⟨0, 9, 25, 24⟩] (htab.trans rfl) (fun z hz => by
      rcases List.mem_cons.mp hz with rfl | hz
      · exact Or.inr ⟨by decide, exN 3, hts _ q_291, hN.1.1⟩
      exact nomatch hz) (by decide) (by decide) (hts _ q_292) (va_Nw.use rfl (hK.2 _ q_310)) h1 h2 h3 ?_
    refine lv_astore (lv' := [(5, .ref q9), (0, .ref (ad 0 0)), (1, .int p1), (2, .int p2), (3, .int p3), (4, .int p4)]) hx hb dL_call_15 hl (by decide) rfl (fun ls hl => ?_)
    refine lv_ldc (v := (-2000000002)) hx hb hown (hts _ q_636) dL_call_17 ?_
    exact reta_i hC hka hLX hR hS hcap hsap dL_call_19
  · cases hz
    refine vx_catch (E := exN 2) (name := exN 2) hown [⟨0, 9, 10, 15⟩, ⟨0, 9, 15, 18⟩] ⟨0, 9, 20, 21⟩ [⟨0, 9, 25, 24⟩] (htab.trans rfl) (fun z hz => by
      rcases List.mem_cons.mp hz with rfl | hz
      · exact Or.inr ⟨by decide, exN 3, hts _ q_291, hN.1.2.1⟩
      rcases List.mem_cons.mp hz with rfl | hz
      · exact Or.inr ⟨by decide, exN 1, hts _ q_292, hN.2.1.1⟩
      exact nomatch hz) (by decide) (by decide) (hts _ q_293) (va_Nw.use rfl (hK.2 _ q_360)) h1 h2 h3 ?_
    refine lv_astore (lv' := [(5, .ref q9), (0, .ref (ad 0 0)), (1, .int p1), (2, .int p2), (3, .int p3), (4, .int p4)]) hx hb dL_call_20 hl (by decide) rfl (fun ls hl => ?_)
    refine lv_ldc (v := (-2000000003)) hx hb hown (hts _ q_637) dL_call_22 ?_
    exact reta_i hC hka hLX hR hS hcap hsap dL_call_24
  · cases hz
    refine vx_catch (E := exN 3) (name := exN 3) hown [] ⟨0, 9, 10, 15⟩ [⟨0, 9, 15, 18⟩, ⟨0, 9, 20, 21⟩, ⟨0, 9, 25, 24⟩] (htab.trans rfl) (fun z hz => nomatch hz) (by decide) (by decide) (hts _ q_291) (va_Nw.use rfl (hK.2 _ q_203)) h1 h2 h3 ?_
    refine lv_astore (lv' := [(5, .ref q9), (0, .ref (ad 0 0)), (1, .int p1), (2, .int p2), (3, .int p3), (4, .int p4)]) hx hb dL_call_10 hl (by decide) rfl (fun ls hl => ?_)
    refine lv_ldc (v := (-2000000001)) hx hb hown (hts _ q_635) dL_call_12 ?_
    exact reta_i hC hka hLX hR hS hcap hsap dL_call_14
  · cases hz
    refine vx_catch (E := exN 4) (name := exN 4) hown [⟨0, 9, 10, 15⟩, ⟨0, 9, 15, 18⟩, ⟨0, 9, 20, 21⟩] ⟨0, 9, 25, 24⟩ [] (htab.trans rfl) (fun z hz => by
      rcases List.mem_cons.mp hz with rfl | hz
      · exact Or.inr ⟨by decide, exN 3, hts _ q_291, hN.1.2.2⟩
      rcases List.mem_cons.mp hz with rfl | hz
      · exact Or.inr ⟨by decide, exN 1, hts _ q_292, hN.2.1.2⟩
      rcases List.mem_cons.mp hz with rfl | hz
      · exact Or.inr ⟨by decide, exN 2, hts _ q_293, hN.2.2⟩
      exact nomatch hz) (by decide) (by decide) (hts _ q_294) (va_Nw.use rfl (hK.2 _ q_574)) h1 h2 h3 ?_
    refine lv_astore (lv' := [(5, .ref q9), (0, .ref (ad 0 0)), (1, .int p1), (2, .int p2), (3, .int p3), (4, .int p4)]) hx hb dL_call_25 hl (by decide) rfl (fun ls hl => ?_)
    refine lv_ldc (v := (-2000000004)) hx hb hown (hts _ q_638) dL_call_27 ?_
    exact reta_i hC hka hLX hR hS hcap hsap dL_call_29
