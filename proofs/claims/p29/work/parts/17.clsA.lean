def fX5_trade (σ : St) (a1 : Int32) (a2 : Int32) (a3 : Int32) (a4 : Int32) (a5 : Int32) : Option ((St) × Nat × Nat) := gd (vin a1 5) (bd (fX5_book σ a1.toNatClampNeg a3 a4 a5) (fun q2 => gd (sameN q2 σ) (gd (vin a2 5) (bd (fX5_book q2 a2.toNatClampNeg a3 (-a4) a5) (fun q5 => gd (sameN q5 q2) (gd (gN q5 1 ≤ gN q5 6) (tk 1 5 (bd (fX4_init (newT q5) (gN q5 6) a1 a2 a3 a4 a5) (fun q14 => gd (sameN q14 (newT q5)) (gd (gN q14 1 < gN q14 6 ∧ gN q14 1 ≤ gN q14 3 ∧ gN q14 3 ≤ 1000000 ∧ gN q5 6 = gN q14 1) (tk (amc (gN q14 1) (gN q14 3)) (ams (gN q14 1) (gN q14 3)) (some (pI (addL14 q14) 20 0 0 ((gI (addL14 q14) 20 0 0) + 1), 0, 0)))))))))))))
set_option maxHeartbeats 4000000 in
set_option maxRecDepth 100000 in
theorem mX5_trade (l : Launch) (D : va_G) (dA : Nat → ClassId) (ad : Nat → Nat → Nat) (σ : St) (sz x mi : Nat) (a1 : Int32) (a2 : Int32) (a3 : Int32) (a4 : Int32) (a5 : Int32) (σ' : St) (mc ms : Nat) (hf : fX5_trade σ a1 a2 a3 a4 a5 = some (σ', mc, ms)) : Met l yX5_trade (WSy yX5_trade cX5_trade 6 none) ({ frames := 7, cells := mc, slots := ms, locals := 177 } : Room) (va_Pc [.ref (ad 0 0), .int a1, .int a2, .int a3, .int a4, .int a5] (PreA D dA ad σ x mi sz)) (va_Qv (fun (ad' : Nat → Nat → Nat) => KA [15] ad ad' σ σ' ∧ LX ad' σ' x) (fun ad' t => HC D dA (WA ad (cvC σ) sz) ad' σ' t.heap) (WA ad (cvC σ) sz)) mc ms (WA ad (cvC σ) sz) := by
  refine met_of (by decide) (Nat.le_of_ble_eq_true rfl) ?_
  intro p e s m below meth c ls hC hB hl
  obtain ⟨rfl, hR, hK, hX, hLX⟩ := hB
  have hA : ∀ q : Nat, s.heap.size ≤ q → WA ad (cvC σ) s.heap.size q := fun q h => Or.inr h
  have hR := WW_fit (B := WA ad (cvC σ) s.heap.size) hR (fun f i h => WA_in h)
  have hS : va_S (WA ad (cvC σ) s.heap.size) s.heap s.heap [] := va_S.rf
  generalize WA ad (cvC σ) s.heap.size = A0 at hA hR hS hX ⊢
  have hC : CTX p s m _ meth c cX5_trade 6 RX5 none := hC
  obtain ⟨hx, hb, hml, hown, hts, hr, hlk⟩ := id hC
  have hl : lv_has ls 6 [(0, .ref (ad 0 0)), (1, .int a1), (2, .int a2), (3, .int a3), (4, .int a4), (5, .int a5)] := hl
  have hKA : KA [15] ad ad σ σ := KA_rf _ _ _
  have hm : mc = 0 + mc := (Nat.zero_add mc).symm
  have hn : ms = 0 + ms := (Nat.zero_add ms).symm
  unfold fX5_trade at hf
  refine lv_aload_n hx hb dX5_trade_0 rfl (lv_at hl 0 rfl) ?_
  refine va_get (D := D) (ci := 6) (C := RX5) (T := TX5) (N := 8) hx hb hts iuX5 hown hK.1 (WW_one hR (f := 0) (i := 0) rfl) 0 rfl rfl 0 (by decide) (hts _ q_164) (fun _ h9 => h9) rfl dX5_trade_1 ?_
  refine lv_iload_n hx hb dX5_trade_4 rfl (lv_at hl 1 rfl) ?_
  obtain ⟨g1, hf⟩ := gd_of hf
  refine va_aldq (C := RX0) hx hb hK.1 (WW_one hR (f := 1) (i := 0) rfl) 0 3 rfl rfl g1 dX5_trade_5 ?_
  refine lv_iload_n hx hb dX5_trade_6 rfl (lv_at hl 3 rfl) ?_
  refine lv_iload hx hb dX5_trade_7 (lv_at hl 4 rfl) ?_
  refine lv_iload hx hb dX5_trade_9 (lv_at hl 5 rfl) ?_
  obtain ⟨q2, hcq2, hf⟩ := bd_of hf
  obtain ⟨g3, hf⟩ := gd_of hf
  refine kc_v (va_runS (As := [.ref (ad 2 a1.toNatClampNeg), .int a3, .int a4, .int a5]) (rest := []) ⟨hx, hb, hml, hown, hts⟩ (mX5_book l D dA ad σ _ a1.toNatClampNeg a3 a4 a5 q2 hcq2 (vin_lt g1)) (va_cwS 4 hts gX5_237 rfl rfl rfl (by decide +kernel) ⟨Nat.le_of_ble_eq_true rfl, Nat.le_of_ble_eq_true rfl⟩) (preS_of hR hK _) rfl rfl hl.1 rfl (lv_room (Nat.le_of_ble_eq_true rfl)) dX5_trade_11 ⟨nle0 hm, nle0 hn⟩) hA hR hS (fun H locs hR hS => ?_)
  have hKA := KA_same hKA g3
  have hLX := LX_same hLX g3
  refine lv_aload_n hx hb dX5_trade_14 rfl (lv_at hl 0 rfl) ?_
  refine va_get (D := D) (ci := 6) (C := RX5) (T := TX5) (N := 8) hx hb hts iuX5 hown hK.1 (WW_one hR (f := 0) (i := 0) rfl) 0 rfl rfl 0 (by decide) (hts _ q_164) (fun _ h9 => h9) rfl dX5_trade_15 ?_
  refine lv_iload_n hx hb dX5_trade_18 rfl (lv_at hl 2 rfl) ?_
  obtain ⟨g4, hf⟩ := gd_of hf
  refine va_aldq (C := RX0) hx hb hK.1 (WW_one hR (f := 1) (i := 0) rfl) 0 3 rfl rfl g4 dX5_trade_19 ?_
  refine lv_iload_n hx hb dX5_trade_20 rfl (lv_at hl 3 rfl) ?_
  refine lv_iload hx hb dX5_trade_21 (lv_at hl 4 rfl) ?_
  refine lv_ineg hx hb dX5_trade_23 ?_
  refine lv_iload hx hb dX5_trade_24 (lv_at hl 5 rfl) ?_
  obtain ⟨q5, hcq5, hf⟩ := bd_of hf
  obtain ⟨g6, hf⟩ := gd_of hf
  refine kc_v (va_runS (As := [.ref (ad 2 a2.toNatClampNeg), .int a3, .int (-a4), .int a5]) (rest := []) ⟨hx, hb, hml, hown, hts⟩ (mX5_book l D dA ad q2 _ a2.toNatClampNeg a3 (-a4) a5 q5 hcq5 (vin_lt g4)) (va_cwS 4 hts gX5_237 rfl rfl rfl (by decide +kernel) ⟨Nat.le_of_ble_eq_true rfl, Nat.le_of_ble_eq_true rfl⟩) (preS_of hR hK _) rfl rfl hl.1 rfl (lv_room (Nat.le_of_ble_eq_true rfl)) dX5_trade_26 ⟨nle0 hm, nle0 hn⟩) hA hR hS (fun H locs hR hS => ?_)
  have hKA := KA_same hKA g6
  have hLX := LX_same hLX g6
  refine lv_aload_n hx hb dX5_trade_29 rfl (lv_at hl 0 rfl) ?_
  refine va_get (D := D) (ci := 6) (C := RX5) (T := TX5) (N := 8) hx hb hts iuX5 hown hK.1 (WW_one hR (f := 0) (i := 0) rfl) 0 rfl rfl 4 (by decide) (hts _ q_168) (fun _ h9 => h9) rfl dX5_trade_30 ?_
  obtain ⟨g7, hf⟩ := gd_of hf
  obtain ⟨m8, n9, hf, hem, hen⟩ := tk_of hf
  refine new_18 hC hK hA hR hS hLX g7 q_529 (nle hm hem) (nle hn hen) dX5_trade_33 (fun ad10 H hka hLX hR hS => ?_)
  have e11 := (hka 0 0 rfl (by decide)).1
  have e12 := (hka 14 0 rfl (by decide)).1
  have w13 := (hka 14 0 rfl (by decide)).2
  have hl : lv_has ls 6 [(0, .ref (ad10 0 0)), (1, .int a1), (2, .int a2), (3, .int a3), (4, .int a4), (5, .int a5)] := by rw [e11]; exact hl
  refine W.eq (g2 := F0 m 36 ls [.ref (ad10 18 (gN q5 6)), .ref (ad10 14 0)]) (by rw [e12]) ?_
  have hKA := KA_tr hKA hka (by decide)
  have hm := nadd hm hem
  have hn := nadd hn hen
  refine lv_dup hx hb dX5_trade_36 rfl ?_
  refine lv_iload_n hx hb dX5_trade_37 rfl (lv_at hl 1 rfl) ?_
  refine lv_iload_n hx hb dX5_trade_38 rfl (lv_at hl 2 rfl) ?_
  refine lv_iload_n hx hb dX5_trade_39 rfl (lv_at hl 3 rfl) ?_
  refine lv_iload hx hb dX5_trade_40 (lv_at hl 4 rfl) ?_
  refine lv_iload hx hb dX5_trade_42 (lv_at hl 5 rfl) ?_
  obtain ⟨q14, hcq14, hf⟩ := bd_of hf
  obtain ⟨g15, hf⟩ := gd_of hf
  refine kc_v (va_runIN (As := [.int a1, .int a2, .int a3, .int a4, .int a5]) (rest := [.ref (ad10 18 (gN q5 6)), .ref (ad10 14 0)]) ⟨hx, hb, hml, hown, hts⟩ (mX4_init l D dA ad10 (newT q5) _ (gN q5 6) a1 a2 a3 a4 a5 q14 hcq14 (Nat.lt_succ_self _)) ⟨va_cnB 5 hts gX5_241 rfl rfl rfl (hK.2 _ q_531) (hts _ q_55) (by decide +kernel) ⟨Nat.le_of_ble_eq_true rfl, Nat.le_of_ble_eq_true rfl⟩, rfl, hts _ q_532⟩ (preS_of hR hK _) rfl rfl hl.1 rfl (lv_room (Nat.le_of_ble_eq_true rfl)) dX5_trade_44 ⟨nle0 hm, nle0 hn⟩) hA hR hS (fun H locs hR hS => ?_)
  have hKA := KA_same hKA g15
  have hLX := LX_same hLX g15
  have w16 : cvC q14 18 (gN q5 6) := by rw [cvC_same g15]; exact (Nat.lt_succ_self _)
  obtain ⟨g17, hf⟩ := gd_of hf
  obtain ⟨m18, n19, hf, hem, hen⟩ := tk_of hf
  refine W.eq (g2 := F0 m 47 ls (.ref (ad10 18 (gN q14 1)) :: .ref (ad10 14 0) :: [])) (by rw [← g17.2.2.2]) ?_
  refine addw_14 (rest := []) hC hK hA hR hS hX hLX g17.1 g17.2.1 g17.2.2.1 hl q_450 ⟨Nat.le_of_ble_eq_true rfl, Nat.le_of_ble_eq_true rfl⟩ (lv_room (Nat.le_of_ble_eq_true rfl)) ⟨nle hm hem, nle hn hen⟩ dX5_trade_47 (fun ad20 H locs hka hLX hR hS => ?_)
  have e21 := (hka 0 0 rfl (by decide)).1
  have hl : lv_has ls 6 [(0, .ref (ad20 0 0)), (1, .int a1), (2, .int a2), (3, .int a3), (4, .int a4), (5, .int a5)] := by rw [e21]; exact hl
  have hKA := KA_tr hKA hka (by decide)
  have hm := nadd hm hem
  have hn := nadd hn hen
  refine lv_pop hx hb dX5_trade_50 rfl ?_
  refine lv_aload_n hx hb dX5_trade_51 rfl (lv_at hl 0 rfl) ?_
  refine lv_dup hx hb dX5_trade_52 rfl ?_
  refine va_get (D := D) (ci := 6) (C := RX5) (T := TX5) (N := 8) hx hb hts iuX5 hown hK.1 (WW_one hR (f := 0) (i := 0) rfl) 0 rfl rfl 6 (by decide) (hts _ q_170) (fun _ h9 => h9) rfl dX5_trade_53 ?_
  refine lv_iconst (v := 1) hx hb dX5_trade_56 (by decide) ?_
  refine lv_iadd hx hb dX5_trade_57 ?_
  refine ww_put (D := D) (ci := 6) (C := RX5) (T := TX5) (N := 8) (ty := .int) hx hb hts iuX5 tyX5 tyX5_ok nmX5 hown hK.1 hR hS (f := 0) (i := 0) rfl rfl rfl 6 (by decide) (hts _ q_170) (fun _ h9 => h9) rfl (by decide +kernel) rfl rfl (Nat.le_of_ble_eq_true rfl) dX5_trade_58 (fun H locs hR hS => ?_)
  have hR := HC_this_tradeCount 0 ((gI (addL14 q14) 20 0 0) + 1) hR
  have hKA := KA_same (b := pI (addL14 q14) 20 0 0 ((gI (addL14 q14) 20 0 0) + 1)) hKA ⟨rfl, rfl, rfl, rfl, rfl, rfl, rfl⟩
  have hLX := LX_same (b := pI (addL14 q14) 20 0 0 ((gI (addL14 q14) 20 0 0) + 1)) hLX ⟨rfl, rfl, rfl, rfl, rfl, rfl, rfl⟩
  cases hf
  exact reta_v hC hKA hLX hR hS (nfin hm) (nfin hn) dX5_trade_61
def fX5_drop (σ : St) (a1 : Int32) (a2 : Int32) (a3 : Int32) (a4 : Int32) : Option ((St) × Nat × Nat) := gd (vin a1 5) (bd (fX5_book σ a1.toNatClampNeg a2 (-a3) a4) (fun q2 => gd (sameN q2 σ) (gd (gN q2 1 ≤ gN q2 6) (tk 1 5 (bd (fX4_init (newT q2) (gN q2 6) (-1) a1 a2 a3 a4) (fun q11 => gd (sameN q11 (newT q2)) (gd (gN q11 1 < gN q11 6 ∧ gN q11 1 ≤ gN q11 3 ∧ gN q11 3 ≤ 1000000 ∧ gN q2 6 = gN q11 1) (tk (amc (gN q11 1) (gN q11 3)) (ams (gN q11 1) (gN q11 3)) (some (addL14 q11, 0, 0))))))))))
set_option maxHeartbeats 4000000 in
set_option maxRecDepth 100000 in
theorem mX5_drop (l : Launch) (D : va_G) (dA : Nat → ClassId) (ad : Nat → Nat → Nat) (σ : St) (sz x mi : Nat) (a1 : Int32) (a2 : Int32) (a3 : Int32) (a4 : Int32) (σ' : St) (mc ms : Nat) (hf : fX5_drop σ a1 a2 a3 a4 = some (σ', mc, ms)) : Met l yX5_drop (WSy yX5_drop cX5_drop 5 none) ({ frames := 7, cells := mc, slots := ms, locals := 177 } : Room) (va_Pc [.ref (ad 0 0), .int a1, .int a2, .int a3, .int a4] (PreA D dA ad σ x mi sz)) (va_Qv (fun (ad' : Nat → Nat → Nat) => KA [15] ad ad' σ σ' ∧ LX ad' σ' x) (fun ad' t => HC D dA (WA ad (cvC σ) sz) ad' σ' t.heap) (WA ad (cvC σ) sz)) mc ms (WA ad (cvC σ) sz) := by
  refine met_of (by decide) (Nat.le_of_ble_eq_true rfl) ?_
  intro p e s m below meth c ls hC hB hl
  obtain ⟨rfl, hR, hK, hX, hLX⟩ := hB
  have hA : ∀ q : Nat, s.heap.size ≤ q → WA ad (cvC σ) s.heap.size q := fun q h => Or.inr h
  have hR := WW_fit (B := WA ad (cvC σ) s.heap.size) hR (fun f i h => WA_in h)
  have hS : va_S (WA ad (cvC σ) s.heap.size) s.heap s.heap [] := va_S.rf
  generalize WA ad (cvC σ) s.heap.size = A0 at hA hR hS hX ⊢
  have hC : CTX p s m _ meth c cX5_drop 5 RX5 none := hC
  obtain ⟨hx, hb, hml, hown, hts, hr, hlk⟩ := id hC
  have hl : lv_has ls 5 [(0, .ref (ad 0 0)), (1, .int a1), (2, .int a2), (3, .int a3), (4, .int a4)] := hl
  have hKA : KA [15] ad ad σ σ := KA_rf _ _ _
  have hm : mc = 0 + mc := (Nat.zero_add mc).symm
  have hn : ms = 0 + ms := (Nat.zero_add ms).symm
  unfold fX5_drop at hf
  refine lv_aload_n hx hb dX5_drop_0 rfl (lv_at hl 0 rfl) ?_
  refine va_get (D := D) (ci := 6) (C := RX5) (T := TX5) (N := 8) hx hb hts iuX5 hown hK.1 (WW_one hR (f := 0) (i := 0) rfl) 0 rfl rfl 0 (by decide) (hts _ q_164) (fun _ h9 => h9) rfl dX5_drop_1 ?_
  refine lv_iload_n hx hb dX5_drop_4 rfl (lv_at hl 1 rfl) ?_
  obtain ⟨g1, hf⟩ := gd_of hf
  refine va_aldq (C := RX0) hx hb hK.1 (WW_one hR (f := 1) (i := 0) rfl) 0 3 rfl rfl g1 dX5_drop_5 ?_
  refine lv_iload_n hx hb dX5_drop_6 rfl (lv_at hl 2 rfl) ?_
  refine lv_iload_n hx hb dX5_drop_7 rfl (lv_at hl 3 rfl) ?_
  refine lv_ineg hx hb dX5_drop_8 ?_
  refine lv_iload hx hb dX5_drop_9 (lv_at hl 4 rfl) ?_
  obtain ⟨q2, hcq2, hf⟩ := bd_of hf
  obtain ⟨g3, hf⟩ := gd_of hf
  refine kc_v (va_runS (As := [.ref (ad 2 a1.toNatClampNeg), .int a2, .int (-a3), .int a4]) (rest := []) ⟨hx, hb, hml, hown, hts⟩ (mX5_book l D dA ad σ _ a1.toNatClampNeg a2 (-a3) a4 q2 hcq2 (vin_lt g1)) (va_cwS 4 hts gX5_237 rfl rfl rfl (by decide +kernel) ⟨Nat.le_of_ble_eq_true rfl, Nat.le_of_ble_eq_true rfl⟩) (preS_of hR hK _) rfl rfl hl.1 rfl (lv_room (Nat.le_of_ble_eq_true rfl)) dX5_drop_11 ⟨nle0 hm, nle0 hn⟩) hA hR hS (fun H locs hR hS => ?_)
  have hKA := KA_same hKA g3
  have hLX := LX_same hLX g3
  refine lv_aload_n hx hb dX5_drop_14 rfl (lv_at hl 0 rfl) ?_
  refine va_get (D := D) (ci := 6) (C := RX5) (T := TX5) (N := 8) hx hb hts iuX5 hown hK.1 (WW_one hR (f := 0) (i := 0) rfl) 0 rfl rfl 4 (by decide) (hts _ q_168) (fun _ h9 => h9) rfl dX5_drop_15 ?_
  obtain ⟨g4, hf⟩ := gd_of hf
  obtain ⟨m5, n6, hf, hem, hen⟩ := tk_of hf
  refine new_18 hC hK hA hR hS hLX g4 q_529 (nle hm hem) (nle hn hen) dX5_drop_18 (fun ad7 H hka hLX hR hS => ?_)
  have e8 := (hka 0 0 rfl (by decide)).1
  have e9 := (hka 14 0 rfl (by decide)).1
  have w10 := (hka 14 0 rfl (by decide)).2
  have hl : lv_has ls 5 [(0, .ref (ad7 0 0)), (1, .int a1), (2, .int a2), (3, .int a3), (4, .int a4)] := by rw [e8]; exact hl
  refine W.eq (g2 := F0 m 21 ls [.ref (ad7 18 (gN q2 6)), .ref (ad7 14 0)]) (by rw [e9]) ?_
  have hKA := KA_tr hKA hka (by decide)
  have hm := nadd hm hem
  have hn := nadd hn hen
  refine lv_dup hx hb dX5_drop_21 rfl ?_
  refine lv_iconst (v := (-1)) hx hb dX5_drop_22 (by decide) ?_
  refine lv_iload_n hx hb dX5_drop_23 rfl (lv_at hl 1 rfl) ?_
  refine lv_iload_n hx hb dX5_drop_24 rfl (lv_at hl 2 rfl) ?_
  refine lv_iload_n hx hb dX5_drop_25 rfl (lv_at hl 3 rfl) ?_
  refine lv_iload hx hb dX5_drop_26 (lv_at hl 4 rfl) ?_
  obtain ⟨q11, hcq11, hf⟩ := bd_of hf
  obtain ⟨g12, hf⟩ := gd_of hf
  refine kc_v (va_runIN (As := [.int (-1), .int a1, .int a2, .int a3, .int a4]) (rest := [.ref (ad7 18 (gN q2 6)), .ref (ad7 14 0)]) ⟨hx, hb, hml, hown, hts⟩ (mX4_init l D dA ad7 (newT q2) _ (gN q2 6) (-1) a1 a2 a3 a4 q11 hcq11 (Nat.lt_succ_self _)) ⟨va_cnB 5 hts gX5_241 rfl rfl rfl (hK.2 _ q_531) (hts _ q_55) (by decide +kernel) ⟨Nat.le_of_ble_eq_true rfl, Nat.le_of_ble_eq_true rfl⟩, rfl, hts _ q_532⟩ (preS_of hR hK _) rfl rfl hl.1 rfl (lv_room (Nat.le_of_ble_eq_true rfl)) dX5_drop_28 ⟨nle0 hm, nle0 hn⟩) hA hR hS (fun H locs hR hS => ?_)
  have hKA := KA_same hKA g12
  have hLX := LX_same hLX g12
  have w13 : cvC q11 18 (gN q2 6) := by rw [cvC_same g12]; exact (Nat.lt_succ_self _)
  obtain ⟨g14, hf⟩ := gd_of hf
  obtain ⟨m15, n16, hf, hem, hen⟩ := tk_of hf
  refine W.eq (g2 := F0 m 31 ls (.ref (ad7 18 (gN q11 1)) :: .ref (ad7 14 0) :: [])) (by rw [← g14.2.2.2]) ?_
  refine addw_14 (rest := []) hC hK hA hR hS hX hLX g14.1 g14.2.1 g14.2.2.1 hl q_450 ⟨Nat.le_of_ble_eq_true rfl, Nat.le_of_ble_eq_true rfl⟩ (lv_room (Nat.le_of_ble_eq_true rfl)) ⟨nle hm hem, nle hn hen⟩ dX5_drop_31 (fun ad17 H locs hka hLX hR hS => ?_)
  have e18 := (hka 0 0 rfl (by decide)).1
  have hl : lv_has ls 5 [(0, .ref (ad17 0 0)), (1, .int a1), (2, .int a2), (3, .int a3), (4, .int a4)] := by rw [e18]; exact hl
  have hKA := KA_tr hKA hka (by decide)
  have hm := nadd hm hem
  have hn := nadd hn hen
  refine lv_pop hx hb dX5_drop_34 rfl ?_
  cases hf
  exact reta_v hC hKA hLX hR hS (nfin hm) (nfin hn) dX5_drop_35
def fX5_tradeWithResting (σ : St) (a1 : Int32) (a2 : Nat) (a3 : Int32) : Option ((St) × Nat × Nat) := if (gI (pI σ 35 a2 0 ((gI σ 35 a2 0) - a3)) 33 a2 0) = 0 then bt2 (fX5_trade (pI σ 35 a2 0 ((gI σ 35 a2 0) - a3)) a1 (gI (pI σ 35 a2 0 ((gI σ 35 a2 0) - a3)) 31 a2 0) (gI (pI σ 35 a2 0 ((gI σ 35 a2 0) - a3)) 32 a2 0) a3 (gI (pI σ 35 a2 0 ((gI σ 35 a2 0) - a3)) 34 a2 0)) (fun q2 => some (q2, 0, 0)) else bt2 (fX5_trade (pI σ 35 a2 0 ((gI σ 35 a2 0) - a3)) (gI (pI σ 35 a2 0 ((gI σ 35 a2 0) - a3)) 31 a2 0) a1 (gI (pI σ 35 a2 0 ((gI σ 35 a2 0) - a3)) 32 a2 0) a3 (gI (pI σ 35 a2 0 ((gI σ 35 a2 0) - a3)) 34 a2 0)) (fun q11 => some (q11, 0, 0))
set_option maxHeartbeats 4000000 in
set_option maxRecDepth 100000 in
theorem mX5_tradeWithResting (l : Launch) (D : va_G) (dA : Nat → ClassId) (ad : Nat → Nat → Nat) (σ : St) (sz x mi : Nat) (a1 : Int32) (a2 : Nat) (a3 : Int32) (σ' : St) (mc ms : Nat) (hf : fX5_tradeWithResting σ a1 a2 a3 = some (σ', mc, ms)) (ha2 : cvC σ 17 a2) : Met l yX5_tradeWithResting (WSy yX5_tradeWithResting cX5_tradeWithResting 4 none) ({ frames := 8, cells := mc, slots := ms, locals := 202 } : Room) (va_Pc [.ref (ad 0 0), .int a1, .ref (ad 17 a2), .int a3] (PreA D dA ad σ x mi sz)) (va_Qv (fun (ad' : Nat → Nat → Nat) => KA [15] ad ad' σ σ' ∧ LX ad' σ' x) (fun ad' t => HC D dA (WA ad (cvC σ) sz) ad' σ' t.heap) (WA ad (cvC σ) sz)) mc ms (WA ad (cvC σ) sz) := by
  refine met_of (by decide) (Nat.le_of_ble_eq_true rfl) ?_
  intro p e s m below meth c ls hC hB hl
  obtain ⟨rfl, hR, hK, hX, hLX⟩ := hB
  have hA : ∀ q : Nat, s.heap.size ≤ q → WA ad (cvC σ) s.heap.size q := fun q h => Or.inr h
  have hR := WW_fit (B := WA ad (cvC σ) s.heap.size) hR (fun f i h => WA_in h)
  have hS : va_S (WA ad (cvC σ) s.heap.size) s.heap s.heap [] := va_S.rf
  generalize WA ad (cvC σ) s.heap.size = A0 at hA hR hS hX ⊢
  have hC : CTX p s m _ meth c cX5_tradeWithResting 4 RX5 none := hC
  obtain ⟨hx, hb, hml, hown, hts, hr, hlk⟩ := id hC
  have hl : lv_has ls 4 [(0, .ref (ad 0 0)), (1, .int a1), (2, .ref (ad 17 a2)), (3, .int a3)] := hl
  have hKA : KA [15] ad ad σ σ := KA_rf _ _ _
  have hm : mc = 0 + mc := (Nat.zero_add mc).symm
  have hn : ms = 0 + ms := (Nat.zero_add ms).symm
  unfold fX5_tradeWithResting at hf
  refine lv_aload_n hx hb dX5_tradeWithResting_0 rfl (lv_at hl 2 rfl) ?_
  refine lv_dup hx hb dX5_tradeWithResting_1 rfl ?_
  refine va_getN (D := D) (ci := 3) (C := RX2) (T := TX2) (N := 6) hx hb hts iuX2 hown hK.1 (WW_one hR (f := 17) (i := a2) ha2) 0 rfl rfl 5 (by decide) (nw_f hK.2 q_436) (fun _ h9 => h9) rfl dX5_tradeWithResting_2 ?_
  refine lv_iload_n hx hb dX5_tradeWithResting_5 rfl (lv_at hl 3 rfl) ?_
  refine lv_isub hx hb dX5_tradeWithResting_6 ?_
  refine ww_putN (D := D) (ci := 3) (C := RX2) (T := TX2) (N := 6) (ty := .int) hx hb hts iuX2 tyX2 tyX2_ok nmX2 hown hK.1 hR hS (f := 17) (i := a2) ha2 rfl rfl 5 (by decide) (nw_f hK.2 q_436) (fun _ h9 => h9) rfl (by decide +kernel) rfl rfl (Nat.le_of_ble_eq_true rfl) dX5_tradeWithResting_7 (fun H locs hR hS => ?_)
  have hR := HC_Order_rest a2 ((gI σ 35 a2 0) - a3) hR
  have hKA := KA_same (b := pI σ 35 a2 0 ((gI σ 35 a2 0) - a3)) hKA ⟨rfl, rfl, rfl, rfl, rfl, rfl, rfl⟩
  have hLX := LX_same (b := pI σ 35 a2 0 ((gI σ 35 a2 0) - a3)) hLX ⟨rfl, rfl, rfl, rfl, rfl, rfl, rfl⟩
  refine lv_aload_n hx hb dX5_tradeWithResting_10 rfl (lv_at hl 2 rfl) ?_
  refine va_getN (D := D) (ci := 3) (C := RX2) (T := TX2) (N := 6) hx hb hts iuX2 hown hK.1 (WW_one hR (f := 17) (i := a2) ha2) 0 rfl rfl 3 (by decide) (nw_f hK.2 q_432) (fun _ h9 => h9) rfl dX5_tradeWithResting_11 ?_
  refine lv_if_eq (tgt := 38) hx hb dX5_tradeWithResting_14 (by decide) (fun c1 => ?_) (fun c1 => ?_)
  · have hf := if_of_pos hf c1
    refine lv_aload_n hx hb dX5_tradeWithResting_38 rfl (lv_at hl 0 rfl) ?_
    refine lv_iload_n hx hb dX5_tradeWithResting_39 rfl (lv_at hl 1 rfl) ?_
    refine lv_aload_n hx hb dX5_tradeWithResting_40 rfl (lv_at hl 2 rfl) ?_
    refine va_getN (D := D) (ci := 3) (C := RX2) (T := TX2) (N := 6) hx hb hts iuX2 hown hK.1 (WW_one hR (f := 17) (i := a2) ha2) 0 rfl rfl 1 (by decide) (nw_f hK.2 q_428) (fun _ h9 => h9) rfl dX5_tradeWithResting_41 ?_
    refine lv_aload_n hx hb dX5_tradeWithResting_44 rfl (lv_at hl 2 rfl) ?_
    refine va_getN (D := D) (ci := 3) (C := RX2) (T := TX2) (N := 6) hx hb hts iuX2 hown hK.1 (WW_one hR (f := 17) (i := a2) ha2) 0 rfl rfl 2 (by decide) (nw_f hK.2 q_430) (fun _ h9 => h9) rfl dX5_tradeWithResting_45 ?_
    refine lv_iload_n hx hb dX5_tradeWithResting_48 rfl (lv_at hl 3 rfl) ?_
    refine lv_aload_n hx hb dX5_tradeWithResting_49 rfl (lv_at hl 2 rfl) ?_
    refine va_getN (D := D) (ci := 3) (C := RX2) (T := TX2) (N := 6) hx hb hts iuX2 hown hK.1 (WW_one hR (f := 17) (i := a2) ha2) 0 rfl rfl 4 (by decide) (nw_f hK.2 q_434) (fun _ h9 => h9) rfl dX5_tradeWithResting_50 ?_
    obtain ⟨q2, m3, n4, m5, n6, hcq2, hf, hem, hen⟩ := bt2_of hf
    refine kca_v (va_runV (As := [.int a1, .int (gI (pI σ 35 a2 0 ((gI σ 35 a2 0) - a3)) 31 a2 0), .int (gI (pI σ 35 a2 0 ((gI σ 35 a2 0) - a3)) 32 a2 0), .int a3, .int (gI (pI σ 35 a2 0 ((gI σ 35 a2 0) - a3)) 34 a2 0)]) (rest := []) ⟨hx, hb, hml, hown, hts⟩ (mX5_trade l D dA ad (pI σ 35 a2 0 ((gI σ 35 a2 0) - a3)) _ x mi a1 (gI (pI σ 35 a2 0 ((gI σ 35 a2 0) - a3)) 31 a2 0) (gI (pI σ 35 a2 0 ((gI σ 35 a2 0) - a3)) 32 a2 0) a3 (gI (pI σ 35 a2 0 ((gI σ 35 a2 0) - a3)) 34 a2 0) q2 m3 n4 hcq2) (cwV 5 hts gX5_233 rfl rfl rfl (by decide +kernel) ⟨Nat.le_of_ble_eq_true rfl, Nat.le_of_ble_eq_true rfl⟩) (preVA_of hA hR hS hK hX hLX _) rfl rfl hl.1 rfl (lv_room (Nat.le_of_ble_eq_true rfl)) dX5_tradeWithResting_53 ⟨nle hm hem, nle hn hen⟩) hA hR hS (fun ad7 H locs hka hLX hR hS => ?_)
    have e8 := (hka 0 0 rfl (by decide)).1
    have e9 := (hka 17 a2 ha2 (by decide)).1
    have w10 := (hka 17 a2 ha2 (by decide)).2
    have hl : lv_has ls 4 [(0, .ref (ad7 0 0)), (1, .int a1), (2, .ref (ad7 17 a2)), (3, .int a3)] := by rw [e8, e9]; exact hl
    have hKA := KA_tr hKA hka (by decide)
    have hm := nadd hm hem
    have hn := nadd hn hen
    cases hf
    exact reta_v hC hKA hLX hR hS (nfin hm) (nfin hn) dX5_tradeWithResting_56
  · have hf := if_of_neg hf c1
    refine lv_aload_n hx hb dX5_tradeWithResting_17 rfl (lv_at hl 0 rfl) ?_
    refine lv_aload_n hx hb dX5_tradeWithResting_18 rfl (lv_at hl 2 rfl) ?_
    refine va_getN (D := D) (ci := 3) (C := RX2) (T := TX2) (N := 6) hx hb hts iuX2 hown hK.1 (WW_one hR (f := 17) (i := a2) ha2) 0 rfl rfl 1 (by decide) (nw_f hK.2 q_428) (fun _ h9 => h9) rfl dX5_tradeWithResting_19 ?_
    refine lv_iload_n hx hb dX5_tradeWithResting_22 rfl (lv_at hl 1 rfl) ?_
    refine lv_aload_n hx hb dX5_tradeWithResting_23 rfl (lv_at hl 2 rfl) ?_
    refine va_getN (D := D) (ci := 3) (C := RX2) (T := TX2) (N := 6) hx hb hts iuX2 hown hK.1 (WW_one hR (f := 17) (i := a2) ha2) 0 rfl rfl 2 (by decide) (nw_f hK.2 q_430) (fun _ h9 => h9) rfl dX5_tradeWithResting_24 ?_
    refine lv_iload_n hx hb dX5_tradeWithResting_27 rfl (lv_at hl 3 rfl) ?_
    refine lv_aload_n hx hb dX5_tradeWithResting_28 rfl (lv_at hl 2 rfl) ?_
    refine va_getN (D := D) (ci := 3) (C := RX2) (T := TX2) (N := 6) hx hb hts iuX2 hown hK.1 (WW_one hR (f := 17) (i := a2) ha2) 0 rfl rfl 4 (by decide) (nw_f hK.2 q_434) (fun _ h9 => h9) rfl dX5_tradeWithResting_29 ?_
    obtain ⟨q11, m12, n13, m14, n15, hcq11, hf, hem, hen⟩ := bt2_of hf
    refine kca_v (va_runV (As := [.int (gI (pI σ 35 a2 0 ((gI σ 35 a2 0) - a3)) 31 a2 0), .int a1, .int (gI (pI σ 35 a2 0 ((gI σ 35 a2 0) - a3)) 32 a2 0), .int a3, .int (gI (pI σ 35 a2 0 ((gI σ 35 a2 0) - a3)) 34 a2 0)]) (rest := []) ⟨hx, hb, hml, hown, hts⟩ (mX5_trade l D dA ad (pI σ 35 a2 0 ((gI σ 35 a2 0) - a3)) _ x mi (gI (pI σ 35 a2 0 ((gI σ 35 a2 0) - a3)) 31 a2 0) a1 (gI (pI σ 35 a2 0 ((gI σ 35 a2 0) - a3)) 32 a2 0) a3 (gI (pI σ 35 a2 0 ((gI σ 35 a2 0) - a3)) 34 a2 0) q11 m12 n13 hcq11) (cwV 5 hts gX5_233 rfl rfl rfl (by decide +kernel) ⟨Nat.le_of_ble_eq_true rfl, Nat.le_of_ble_eq_true rfl⟩) (preVA_of hA hR hS hK hX hLX _) rfl rfl hl.1 rfl (lv_room (Nat.le_of_ble_eq_true rfl)) dX5_tradeWithResting_32 ⟨nle hm hem, nle hn hen⟩) hA hR hS (fun ad16 H locs hka hLX hR hS => ?_)
    have e17 := (hka 0 0 rfl (by decide)).1
    have e18 := (hka 17 a2 ha2 (by decide)).1
    have w19 := (hka 17 a2 ha2 (by decide)).2
    have hl : lv_has ls 4 [(0, .ref (ad16 0 0)), (1, .int a1), (2, .ref (ad16 17 a2)), (3, .int a3)] := by rw [e17, e18]; exact hl
    have hKA := KA_tr hKA hka (by decide)
    have hm := nadd hm hem
    have hn := nadd hn hen
    refine lv_goto (tgt := 56) hx hb dX5_tradeWithResting_35 (by decide) ?_
    cases hf
    exact reta_v hC hKA hLX hR hS (nfin hm) (nfin hn) dX5_tradeWithResting_56
def fX5_match_L2 : Nat → St → Int32 → Nat → Option ((St) × Nat × Nat)
  | 0, _, _, _ => none
  | n + 1, σ, v2, v1 => if 100 ≤ v2 then some (σ, 0, 0) else if (gI σ 35 v1 0) ≤ 0 then some (σ, 0, 0) else if ¬ (gI σ 33 v1 0) = 0 then bd (fX5_bestResting σ (gI σ 32 v1 0) 0) (fun q4 => oc q4 (some (σ, 0, 0)) (fun k5 => gd (k5 < gN σ 5) (bd (fX5_meet σ v1 k5) (fun q7 => if ¬ q7 = 0 then if ¬ (gI σ 31 k5 0) = (gI σ 31 v1 0) then kst ((if (gI σ 35 k5 0) < (gI σ 35 v1 0) then (gI σ 35 k5 0) else (gI σ 35 v1 0))) (fun x10 => bt2 (fX5_tradeWithResting (pI σ 35 v1 0 ((gI σ 35 v1 0) - x10)) (gI (pI σ 35 v1 0 ((gI σ 35 v1 0) - x10)) 31 v1 0) k5 x10) (fun q11 => kst (v2 + 1) (fun x22 => fX5_match_L2 n q11 x22 v1))) else kst (v2 + 1) (fun x23 => fX5_match_L2 n (pI σ 35 k5 0 0) x23 v1) else some (σ, 0, 0))))) else bd (fX5_bestResting σ (gI σ 32 v1 0) 1) (fun q24 => oc q24 (some (σ, 0, 0)) (fun k25 => gd (k25 < gN σ 5) (bd (fX5_meet σ v1 k25) (fun q27 => if ¬ q27 = 0 then if ¬ (gI σ 31 k25 0) = (gI σ 31 v1 0) then kst ((if (gI σ 35 k25 0) < (gI σ 35 v1 0) then (gI σ 35 k25 0) else (gI σ 35 v1 0))) (fun x30 => bt2 (fX5_tradeWithResting (pI σ 35 v1 0 ((gI σ 35 v1 0) - x30)) (gI (pI σ 35 v1 0 ((gI σ 35 v1 0) - x30)) 31 v1 0) k25 x30) (fun q31 => kst (v2 + 1) (fun x42 => fX5_match_L2 n q31 x42 v1))) else kst (v2 + 1) (fun x43 => fX5_match_L2 n (pI σ 35 k25 0 0) x43 v1) else some (σ, 0, 0)))))
set_option maxHeartbeats 4000000 in
set_option maxRecDepth 100000 in
theorem wX5_match_L2 {p : Program} {l : Launch} {e : Env} {s : State} {m : MethodId} {args : Array Value} {below : List Frame} {meth : Method} {c : Code} {D : va_G} {dA : Nat → ClassId} {A0 : Nat → Prop} {x mi mc ms : Nat} {ad0 : Nat → Nat → Nat} {σ0 : St} {σ' : St} (hC : CTX p s m args meth c cX5_match 5 RX5 none) (hK : KS D dA s) (hA : ∀ q, s.heap.size ≤ q → A0 q) (hX : EXT x mi A0 s s.heap) : ∀ (n : Nat) (H : Heap) (locs : List Loc) (ls : Array Slot) (ad : Nat → Nat → Nat) (c0 s0 mr sr : Nat) (σ : St) (v2 : Int32) (v1 : Nat) (hv1 : cvC σ 17 v1), KA [15] ad0 ad σ0 σ → LX ad σ x → mc = c0 + mr → ms = s0 + sr → HC D dA A0 ad σ H → va_S A0 s.heap H locs → lv_has ls 5 [(2, .int v2), (0, .ref (ad 0 0)), (1, .ref (ad 17 v1))] → fX5_match_L2 n σ v2 v1 = some (σ', mr, sr) → W p l e ({ frames := 9, cells := mc, slots := ms, locals := 225 } : Room) s m args below meth c H locs c0 s0 (MQ below (va_Qv (fun (ad' : Nat → Nat → Nat) => KA [15] ad0 ad' σ0 σ' ∧ LX ad' σ' x) (fun ad' t => HC D dA A0 ad' σ' t.heap) A0) args s mc ms A0) (F0 m 2 ls []) := by
  obtain ⟨hx, hb, hml, hown, hts, hr, hlk⟩ := id hC
  intro n
  induction n with
  | zero =>
    intro H locs ls ad c0 s0 mr sr σ v2 v1 hv1 hKA hLX hm hn hR hS hl hf
    rw [fX5_match_L2.eq_1] at hf
    cases hf
  | succ n ih =>
    intro H locs ls ad c0 s0 mr sr σ v2 v1 hv1 hKA hLX hm hn hR hS hl hf
    rw [fX5_match_L2.eq_2] at hf
    refine lv_iload_n hx hb dX5_match_2 rfl (lv_at hl 0 rfl) ?_
    refine lv_bipush (v := 100) hx hb dX5_match_3 (by decide) ?_
    refine lv_icmp_ge (tgt := 109) hx hb dX5_match_5 (by decide) (fun c1 => ?_) (fun c1 => ?_)
    · have hf := if_of_pos hf c1
      cases hf
      exact reta_v hC hKA hLX hR hS (nfin hm) (nfin hn) dX5_match_109
    · have hf := if_of_neg hf c1
      refine lv_aload_n hx hb dX5_match_8 rfl (lv_at hl 2 rfl) ?_
      refine va_getN (D := D) (ci := 3) (C := RX2) (T := TX2) (N := 6) hx hb hts iuX2 hown hK.1 (WW_one hR (f := 17) (i := v1) hv1) 0 rfl rfl 5 (by decide) (nw_f hK.2 q_436) (fun _ h9 => h9) rfl dX5_match_9 ?_
      refine lv_if_le (tgt := 109) hx hb dX5_match_12 (by decide) (fun c2 => ?_) (fun c2 => ?_)
      · have hf := if_of_pos hf c2
        cases hf
        exact reta_v hC hKA hLX hR hS (nfin hm) (nfin hn) dX5_match_109
      · have hf := if_of_neg hf c2
        refine lv_aload_n hx hb dX5_match_15 rfl (lv_at hl 1 rfl) ?_
        refine lv_aload_n hx hb dX5_match_16 rfl (lv_at hl 2 rfl) ?_
        refine va_getN (D := D) (ci := 3) (C := RX2) (T := TX2) (N := 6) hx hb hts iuX2 hown hK.1 (WW_one hR (f := 17) (i := v1) hv1) 0 rfl rfl 2 (by decide) (nw_f hK.2 q_430) (fun _ h9 => h9) rfl dX5_match_17 ?_
        refine lv_aload_n hx hb dX5_match_20 rfl (lv_at hl 2 rfl) ?_
        refine va_getN (D := D) (ci := 3) (C := RX2) (T := TX2) (N := 6) hx hb hts iuX2 hown hK.1 (WW_one hR (f := 17) (i := v1) hv1) 0 rfl rfl 3 (by decide) (nw_f hK.2 q_432) (fun _ h9 => h9) rfl dX5_match_21 ?_
        refine lv_if_ne (tgt := 31) hx hb dX5_match_24 (by decide) (fun c3 => ?_) (fun c3 => ?_)
        · have hf := if_of_pos hf c3
          refine lv_iconst (v := 0) hx hb dX5_match_31 (by decide) ?_
          obtain ⟨q4, hcq4, hf⟩ := bd_of hf
          refine kc_q (va_runV (As := [.int (gI σ 32 v1 0), .int 0]) (rest := []) ⟨hx, hb, hml, hown, hts⟩ (mX5_bestResting l D dA ad σ _ (gI σ 32 v1 0) 0 q4 hcq4) (cwV 2 hts gX5_142 rfl rfl rfl (by decide +kernel) ⟨Nat.le_of_ble_eq_true rfl, Nat.le_of_ble_eq_true rfl⟩) (preV_of hR hK (f := 0) (i := 0) rfl rfl rfl _) rfl rfl hl.1 rfl (lv_room (Nat.le_of_ble_eq_true rfl)) dX5_match_32 ⟨nle0 hm, nle0 hn⟩) hA hR hS (fun H locs hR hS => ?_)
          cases q4 with
          | none =>
            have hf := oc_n hf
            refine lv_astore_nN (lv' := [(3, .null), (2, .int v2), (0, .ref (ad 0 0)), (1, .ref (ad 17 v1))]) hx hb dX5_match_35 rfl hl (by decide) rfl (fun ls hl => ?_)
            refine lv_aload_nN hx hb dX5_match_36 rfl (lv_at hl 0 rfl) ?_
            refine lv_ifnullN (tgt := 48) hx hb dX5_match_37 (by decide) ?_
            cases hf
            exact reta_v hC hKA hLX hR hS (nfin hm) (nfin hn) dX5_match_48
          | some k5 =>
            have hf := oc_s hf
            obtain ⟨g6, hf⟩ := gd_of hf
            refine lv_astore_n (lv' := [(3, .ref (ad 17 k5)), (2, .int v2), (0, .ref (ad 0 0)), (1, .ref (ad 17 v1))]) hx hb dX5_match_35 rfl hl (by decide) rfl (fun ls hl => ?_)
            refine lv_aload_n hx hb dX5_match_36 rfl (lv_at hl 0 rfl) ?_
            refine lv_ifnull hx hb dX5_match_37 ?_
            refine lv_aload_n hx hb dX5_match_40 rfl (lv_at hl 3 rfl) ?_
            refine lv_aload_n hx hb dX5_match_41 rfl (lv_at hl 0 rfl) ?_
            obtain ⟨q7, hcq7, hf⟩ := bd_of hf
            refine kc_i (va_runS (As := [.ref (ad 17 v1), .ref (ad 17 k5)]) (rest := []) ⟨hx, hb, hml, hown, hts⟩ (mX5_meet l D dA ad σ _ v1 k5 q7 hcq7 hv1 g6) (va_cwS 2 hts gX5_217 rfl rfl rfl (by decide +kernel) ⟨Nat.le_of_ble_eq_true rfl, Nat.le_of_ble_eq_true rfl⟩) (preS_of hR hK _) rfl rfl hl.1 rfl (lv_room (Nat.le_of_ble_eq_true rfl)) dX5_match_42 ⟨nle0 hm, nle0 hn⟩) hA hR hS (fun H locs hR hS => ?_)
            refine lv_if_ne (tgt := 49) hx hb dX5_match_45 (by decide) (fun c8 => ?_) (fun c8 => ?_)
            · have hf := if_of_pos hf c8
              refine lv_aload_n hx hb dX5_match_49 rfl (lv_at hl 0 rfl) ?_
              refine va_getN (D := D) (ci := 3) (C := RX2) (T := TX2) (N := 6) hx hb hts iuX2 hown hK.1 (WW_one hR (f := 17) (i := k5) g6) 0 rfl rfl 1 (by decide) (nw_f hK.2 q_428) (fun _ h9 => h9) rfl dX5_match_50 ?_
              refine lv_aload_n hx hb dX5_match_53 rfl (lv_at hl 3 rfl) ?_
              refine va_getN (D := D) (ci := 3) (C := RX2) (T := TX2) (N := 6) hx hb hts iuX2 hown hK.1 (WW_one hR (f := 17) (i := v1) hv1) 0 rfl rfl 1 (by decide) (nw_f hK.2 q_428) (fun _ h9 => h9) rfl dX5_match_54 ?_
              refine lv_icmp_ne (tgt := 68) hx hb dX5_match_57 (by decide) (fun c9 => ?_) (fun c9 => ?_)
              · have hf := if_of_pos hf c9
                refine lv_aload_n hx hb dX5_match_68 rfl (lv_at hl 3 rfl) ?_
                refine va_getN (D := D) (ci := 3) (C := RX2) (T := TX2) (N := 6) hx hb hts iuX2 hown hK.1 (WW_one hR (f := 17) (i := v1) hv1) 0 rfl rfl 5 (by decide) (nw_f hK.2 q_436) (fun _ h9 => h9) rfl dX5_match_69 ?_
                refine lv_aload_n hx hb dX5_match_72 rfl (lv_at hl 0 rfl) ?_
                refine va_getN (D := D) (ci := 3) (C := RX2) (T := TX2) (N := 6) hx hb hts iuX2 hown hK.1 (WW_one hR (f := 17) (i := k5) g6) 0 rfl rfl 5 (by decide) (nw_f hK.2 q_436) (fun _ h9 => h9) rfl dX5_match_73 ?_
                refine va_mmin hx hb (hml.trans hl.1.symm) hown (hts _ q_340) (hts _ q_341) (hts _ q_48) (hts _ q_342) (Nat.le_of_ble_eq_true rfl) (Nat.le_of_ble_eq_true rfl) (nle1 hm) (nle1 hn) dX5_match_76 ?_
                refine lv_topi (fun x10 hx10 => ?_)
                have hf := kst_eq hx10 hf
                refine lv_istore (lv' := [(4, .int x10), (3, .ref (ad 17 k5)), (2, .int v2), (0, .ref (ad 0 0)), (1, .ref (ad 17 v1))]) hx hb dX5_match_79 hl (by decide) rfl (fun ls hl => ?_)
                refine lv_aload_n hx hb dX5_match_81 rfl (lv_at hl 4 rfl) ?_
                refine lv_dup hx hb dX5_match_82 rfl ?_
                refine va_getN (D := D) (ci := 3) (C := RX2) (T := TX2) (N := 6) hx hb hts iuX2 hown hK.1 (WW_one hR (f := 17) (i := v1) hv1) 0 rfl rfl 5 (by decide) (nw_f hK.2 q_436) (fun _ h9 => h9) rfl dX5_match_83 ?_
                refine lv_iload hx hb dX5_match_86 (lv_at hl 0 rfl) ?_
                refine lv_isub hx hb dX5_match_88 ?_
                refine ww_putN (D := D) (ci := 3) (C := RX2) (T := TX2) (N := 6) (ty := .int) hx hb hts iuX2 tyX2 tyX2_ok nmX2 hown hK.1 hR hS (f := 17) (i := v1) hv1 rfl rfl 5 (by decide) (nw_f hK.2 q_436) (fun _ h9 => h9) rfl (by decide +kernel) rfl rfl (Nat.le_of_ble_eq_true rfl) dX5_match_89 (fun H locs hR hS => ?_)
                have hR := HC_Order_rest v1 ((gI σ 35 v1 0) - x10) hR
                have hKA := KA_same (b := pI σ 35 v1 0 ((gI σ 35 v1 0) - x10)) hKA ⟨rfl, rfl, rfl, rfl, rfl, rfl, rfl⟩
                have hLX := LX_same (b := pI σ 35 v1 0 ((gI σ 35 v1 0) - x10)) hLX ⟨rfl, rfl, rfl, rfl, rfl, rfl, rfl⟩
                refine lv_aload_n hx hb dX5_match_92 rfl (lv_at hl 3 rfl) ?_
                refine lv_aload_n hx hb dX5_match_93 rfl (lv_at hl 4 rfl) ?_
                refine va_getN (D := D) (ci := 3) (C := RX2) (T := TX2) (N := 6) hx hb hts iuX2 hown hK.1 (WW_one hR (f := 17) (i := v1) hv1) 0 rfl rfl 1 (by decide) (nw_f hK.2 q_428) (fun _ h9 => h9) rfl dX5_match_94 ?_
                refine lv_aload_n hx hb dX5_match_97 rfl (lv_at hl 1 rfl) ?_
                refine lv_iload hx hb dX5_match_98 (lv_at hl 0 rfl) ?_
                obtain ⟨q11, m12, n13, m14, n15, hcq11, hf, hem, hen⟩ := bt2_of hf
                refine kca_v (va_runV (As := [.int (gI (pI σ 35 v1 0 ((gI σ 35 v1 0) - x10)) 31 v1 0), .ref (ad 17 k5), .int x10]) (rest := []) ⟨hx, hb, hml, hown, hts⟩ (mX5_tradeWithResting l D dA ad (pI σ 35 v1 0 ((gI σ 35 v1 0) - x10)) _ x mi (gI (pI σ 35 v1 0 ((gI σ 35 v1 0) - x10)) 31 v1 0) k5 x10 q11 m12 n13 hcq11 g6) (cwV 3 hts gX5_229 rfl rfl rfl (by decide +kernel) ⟨Nat.le_of_ble_eq_true rfl, Nat.le_of_ble_eq_true rfl⟩) (preVA_of hA hR hS hK hX hLX _) rfl rfl hl.1 rfl (lv_room (Nat.le_of_ble_eq_true rfl)) dX5_match_100 ⟨nle hm hem, nle hn hen⟩) hA hR hS (fun ad16 H locs hka hLX hR hS => ?_)
                have e17 := (hka 17 k5 g6 (by decide)).1
                have w18 := (hka 17 k5 g6 (by decide)).2
                have e19 := (hka 0 0 rfl (by decide)).1
                have e20 := (hka 17 v1 hv1 (by decide)).1
                have w21 := (hka 17 v1 hv1 (by decide)).2
                have hl : lv_has ls 5 [(4, .int x10), (3, .ref (ad16 17 k5)), (2, .int v2), (0, .ref (ad16 0 0)), (1, .ref (ad16 17 v1))] := by rw [e17, e19, e20]; exact hl
                have hKA := KA_tr hKA hka (by decide)
                have hm := nadd hm hem
                have hn := nadd hn hen
                obtain ⟨x22, hx22⟩ : ∃ y : Int32, y = v2 + 1 := ⟨_, rfl⟩
                have hf := kst_eq hx22 hf
                refine lv_iinc (v := x22) (lv' := [(2, .int x22), (4, .int x10), (3, .ref (ad16 17 k5)), (0, .ref (ad16 0 0)), (1, .ref (ad16 17 v1))]) hx hb dX5_match_103 hl (k := 2) rfl (by rw [hx22]; rfl) (by decide) rfl (fun ls hl => ?_)
                refine lv_goto (tgt := 2) hx hb dX5_match_106 (by decide) ?_
                exact ih _ _ _ ad16 _ _ _ _ q11 x22 v1 w21 hKA hLX hm hn hR hS (lv_sub hl [0, 3, 4] rfl) hf
              · have hf := if_of_neg hf (fun q => q c9)
                refine lv_aload_n hx hb dX5_match_60 rfl (lv_at hl 0 rfl) ?_
                refine lv_iconst (v := 0) hx hb dX5_match_61 (by decide) ?_
                refine ww_putN (D := D) (ci := 3) (C := RX2) (T := TX2) (N := 6) (ty := .int) hx hb hts iuX2 tyX2 tyX2_ok nmX2 hown hK.1 hR hS (f := 17) (i := k5) g6 rfl rfl 5 (by decide) (nw_f hK.2 q_436) (fun _ h9 => h9) rfl (by decide +kernel) rfl rfl (Nat.le_of_ble_eq_true rfl) dX5_match_62 (fun H locs hR hS => ?_)
                have hR := HC_Order_rest k5 0 hR
                have hKA := KA_same (b := pI σ 35 k5 0 0) hKA ⟨rfl, rfl, rfl, rfl, rfl, rfl, rfl⟩
                have hLX := LX_same (b := pI σ 35 k5 0 0) hLX ⟨rfl, rfl, rfl, rfl, rfl, rfl, rfl⟩
                refine lv_goto (tgt := 103) hx hb dX5_match_65 (by decide) ?_
                obtain ⟨x23, hx23⟩ : ∃ y : Int32, y = v2 + 1 := ⟨_, rfl⟩
                have hf := kst_eq hx23 hf
                refine lv_iinc (v := x23) (lv' := [(2, .int x23), (3, .ref (ad 17 k5)), (0, .ref (ad 0 0)), (1, .ref (ad 17 v1))]) hx hb dX5_match_103 hl (k := 1) rfl (by rw [hx23]; rfl) (by decide) rfl (fun ls hl => ?_)
                refine lv_goto (tgt := 2) hx hb dX5_match_106 (by decide) ?_
                exact ih _ _ _ ad _ _ _ _ (pI σ 35 k5 0 0) x23 v1 hv1 hKA hLX hm hn hR hS (lv_sub hl [0, 2, 3] rfl) hf
            · have hf := if_of_neg hf (fun q => q c8)
              cases hf
              exact reta_v hC hKA hLX hR hS (nfin hm) (nfin hn) dX5_match_48
        · have hf := if_of_neg hf (fun q => q c3)
          refine lv_iconst (v := 1) hx hb dX5_match_27 (by decide) ?_
          refine lv_goto (tgt := 32) hx hb dX5_match_28 (by decide) ?_
          obtain ⟨q24, hcq24, hf⟩ := bd_of hf
          refine kc_q (va_runV (As := [.int (gI σ 32 v1 0), .int 1]) (rest := []) ⟨hx, hb, hml, hown, hts⟩ (mX5_bestResting l D dA ad σ _ (gI σ 32 v1 0) 1 q24 hcq24) (cwV 2 hts gX5_142 rfl rfl rfl (by decide +kernel) ⟨Nat.le_of_ble_eq_true rfl, Nat.le_of_ble_eq_true rfl⟩) (preV_of hR hK (f := 0) (i := 0) rfl rfl rfl _) rfl rfl hl.1 rfl (lv_room (Nat.le_of_ble_eq_true rfl)) dX5_match_32 ⟨nle0 hm, nle0 hn⟩) hA hR hS (fun H locs hR hS => ?_)
          cases q24 with
          | none =>
            have hf := oc_n hf
            refine lv_astore_nN (lv' := [(3, .null), (2, .int v2), (0, .ref (ad 0 0)), (1, .ref (ad 17 v1))]) hx hb dX5_match_35 rfl hl (by decide) rfl (fun ls hl => ?_)
            refine lv_aload_nN hx hb dX5_match_36 rfl (lv_at hl 0 rfl) ?_
            refine lv_ifnullN (tgt := 48) hx hb dX5_match_37 (by decide) ?_
            cases hf
            exact reta_v hC hKA hLX hR hS (nfin hm) (nfin hn) dX5_match_48
          | some k25 =>
            have hf := oc_s hf
            obtain ⟨g26, hf⟩ := gd_of hf
            refine lv_astore_n (lv' := [(3, .ref (ad 17 k25)), (2, .int v2), (0, .ref (ad 0 0)), (1, .ref (ad 17 v1))]) hx hb dX5_match_35 rfl hl (by decide) rfl (fun ls hl => ?_)
            refine lv_aload_n hx hb dX5_match_36 rfl (lv_at hl 0 rfl) ?_
            refine lv_ifnull hx hb dX5_match_37 ?_
            refine lv_aload_n hx hb dX5_match_40 rfl (lv_at hl 3 rfl) ?_
            refine lv_aload_n hx hb dX5_match_41 rfl (lv_at hl 0 rfl) ?_
            obtain ⟨q27, hcq27, hf⟩ := bd_of hf
            refine kc_i (va_runS (As := [.ref (ad 17 v1), .ref (ad 17 k25)]) (rest := []) ⟨hx, hb, hml, hown, hts⟩ (mX5_meet l D dA ad σ _ v1 k25 q27 hcq27 hv1 g26) (va_cwS 2 hts gX5_217 rfl rfl rfl (by decide +kernel) ⟨Nat.le_of_ble_eq_true rfl, Nat.le_of_ble_eq_true rfl⟩) (preS_of hR hK _) rfl rfl hl.1 rfl (lv_room (Nat.le_of_ble_eq_true rfl)) dX5_match_42 ⟨nle0 hm, nle0 hn⟩) hA hR hS (fun H locs hR hS => ?_)
            refine lv_if_ne (tgt := 49) hx hb dX5_match_45 (by decide) (fun c28 => ?_) (fun c28 => ?_)
            · have hf := if_of_pos hf c28
              refine lv_aload_n hx hb dX5_match_49 rfl (lv_at hl 0 rfl) ?_
              refine va_getN (D := D) (ci := 3) (C := RX2) (T := TX2) (N := 6) hx hb hts iuX2 hown hK.1 (WW_one hR (f := 17) (i := k25) g26) 0 rfl rfl 1 (by decide) (nw_f hK.2 q_428) (fun _ h9 => h9) rfl dX5_match_50 ?_
              refine lv_aload_n hx hb dX5_match_53 rfl (lv_at hl 3 rfl) ?_
              refine va_getN (D := D) (ci := 3) (C := RX2) (T := TX2) (N := 6) hx hb hts iuX2 hown hK.1 (WW_one hR (f := 17) (i := v1) hv1) 0 rfl rfl 1 (by decide) (nw_f hK.2 q_428) (fun _ h9 => h9) rfl dX5_match_54 ?_
              refine lv_icmp_ne (tgt := 68) hx hb dX5_match_57 (by decide) (fun c29 => ?_) (fun c29 => ?_)
              · have hf := if_of_pos hf c29
                refine lv_aload_n hx hb dX5_match_68 rfl (lv_at hl 3 rfl) ?_
                refine va_getN (D := D) (ci := 3) (C := RX2) (T := TX2) (N := 6) hx hb hts iuX2 hown hK.1 (WW_one hR (f := 17) (i := v1) hv1) 0 rfl rfl 5 (by decide) (nw_f hK.2 q_436) (fun _ h9 => h9) rfl dX5_match_69 ?_
                refine lv_aload_n hx hb dX5_match_72 rfl (lv_at hl 0 rfl) ?_
                refine va_getN (D := D) (ci := 3) (C := RX2) (T := TX2) (N := 6) hx hb hts iuX2 hown hK.1 (WW_one hR (f := 17) (i := k25) g26) 0 rfl rfl 5 (by decide) (nw_f hK.2 q_436) (fun _ h9 => h9) rfl dX5_match_73 ?_
                refine va_mmin hx hb (hml.trans hl.1.symm) hown (hts _ q_340) (hts _ q_341) (hts _ q_48) (hts _ q_342) (Nat.le_of_ble_eq_true rfl) (Nat.le_of_ble_eq_true rfl) (nle1 hm) (nle1 hn) dX5_match_76 ?_
                refine lv_topi (fun x30 hx30 => ?_)
                have hf := kst_eq hx30 hf
                refine lv_istore (lv' := [(4, .int x30), (3, .ref (ad 17 k25)), (2, .int v2), (0, .ref (ad 0 0)), (1, .ref (ad 17 v1))]) hx hb dX5_match_79 hl (by decide) rfl (fun ls hl => ?_)
                refine lv_aload_n hx hb dX5_match_81 rfl (lv_at hl 4 rfl) ?_
                refine lv_dup hx hb dX5_match_82 rfl ?_
                refine va_getN (D := D) (ci := 3) (C := RX2) (T := TX2) (N := 6) hx hb hts iuX2 hown hK.1 (WW_one hR (f := 17) (i := v1) hv1) 0 rfl rfl 5 (by decide) (nw_f hK.2 q_436) (fun _ h9 => h9) rfl dX5_match_83 ?_
                refine lv_iload hx hb dX5_match_86 (lv_at hl 0 rfl) ?_
                refine lv_isub hx hb dX5_match_88 ?_
                refine ww_putN (D := D) (ci := 3) (C := RX2) (T := TX2) (N := 6) (ty := .int) hx hb hts iuX2 tyX2 tyX2_ok nmX2 hown hK.1 hR hS (f := 17) (i := v1) hv1 rfl rfl 5 (by decide) (nw_f hK.2 q_436) (fun _ h9 => h9) rfl (by decide +kernel) rfl rfl (Nat.le_of_ble_eq_true rfl) dX5_match_89 (fun H locs hR hS => ?_)
                have hR := HC_Order_rest v1 ((gI σ 35 v1 0) - x30) hR
                have hKA := KA_same (b := pI σ 35 v1 0 ((gI σ 35 v1 0) - x30)) hKA ⟨rfl, rfl, rfl, rfl, rfl, rfl, rfl⟩
                have hLX := LX_same (b := pI σ 35 v1 0 ((gI σ 35 v1 0) - x30)) hLX ⟨rfl, rfl, rfl, rfl, rfl, rfl, rfl⟩
                refine lv_aload_n hx hb dX5_match_92 rfl (lv_at hl 3 rfl) ?_
                refine lv_aload_n hx hb dX5_match_93 rfl (lv_at hl 4 rfl) ?_
                refine va_getN (D := D) (ci := 3) (C := RX2) (T := TX2) (N := 6) hx hb hts iuX2 hown hK.1 (WW_one hR (f := 17) (i := v1) hv1) 0 rfl rfl 1 (by decide) (nw_f hK.2 q_428) (fun _ h9 => h9) rfl dX5_match_94 ?_
                refine lv_aload_n hx hb dX5_match_97 rfl (lv_at hl 1 rfl) ?_
                refine lv_iload hx hb dX5_match_98 (lv_at hl 0 rfl) ?_
                obtain ⟨q31, m32, n33, m34, n35, hcq31, hf, hem, hen⟩ := bt2_of hf
                refine kca_v (va_runV (As := [.int (gI (pI σ 35 v1 0 ((gI σ 35 v1 0) - x30)) 31 v1 0), .ref (ad 17 k25), .int x30]) (rest := []) ⟨hx, hb, hml, hown, hts⟩ (mX5_tradeWithResting l D dA ad (pI σ 35 v1 0 ((gI σ 35 v1 0) - x30)) _ x mi (gI (pI σ 35 v1 0 ((gI σ 35 v1 0) - x30)) 31 v1 0) k25 x30 q31 m32 n33 hcq31 g26) (cwV 3 hts gX5_229 rfl rfl rfl (by decide +kernel) ⟨Nat.le_of_ble_eq_true rfl, Nat.le_of_ble_eq_true rfl⟩) (preVA_of hA hR hS hK hX hLX _) rfl rfl hl.1 rfl (lv_room (Nat.le_of_ble_eq_true rfl)) dX5_match_100 ⟨nle hm hem, nle hn hen⟩) hA hR hS (fun ad36 H locs hka hLX hR hS => ?_)
                have e37 := (hka 17 k25 g26 (by decide)).1
                have w38 := (hka 17 k25 g26 (by decide)).2
                have e39 := (hka 0 0 rfl (by decide)).1
                have e40 := (hka 17 v1 hv1 (by decide)).1
                have w41 := (hka 17 v1 hv1 (by decide)).2
                have hl : lv_has ls 5 [(4, .int x30), (3, .ref (ad36 17 k25)), (2, .int v2), (0, .ref (ad36 0 0)), (1, .ref (ad36 17 v1))] := by rw [e37, e39, e40]; exact hl
                have hKA := KA_tr hKA hka (by decide)
                have hm := nadd hm hem
                have hn := nadd hn hen
                obtain ⟨x42, hx42⟩ : ∃ y : Int32, y = v2 + 1 := ⟨_, rfl⟩
                have hf := kst_eq hx42 hf
                refine lv_iinc (v := x42) (lv' := [(2, .int x42), (4, .int x30), (3, .ref (ad36 17 k25)), (0, .ref (ad36 0 0)), (1, .ref (ad36 17 v1))]) hx hb dX5_match_103 hl (k := 2) rfl (by rw [hx42]; rfl) (by decide) rfl (fun ls hl => ?_)
                refine lv_goto (tgt := 2) hx hb dX5_match_106 (by decide) ?_
                exact ih _ _ _ ad36 _ _ _ _ q31 x42 v1 w41 hKA hLX hm hn hR hS (lv_sub hl [0, 3, 4] rfl) hf
              · have hf := if_of_neg hf (fun q => q c29)
                refine lv_aload_n hx hb dX5_match_60 rfl (lv_at hl 0 rfl) ?_
                refine lv_iconst (v := 0) hx hb dX5_match_61 (by decide) ?_
                refine ww_putN (D := D) (ci := 3) (C := RX2) (T := TX2) (N := 6) (ty := .int) hx hb hts iuX2 tyX2 tyX2_ok nmX2 hown hK.1 hR hS (f := 17) (i := k25) g26 rfl rfl 5 (by decide) (nw_f hK.2 q_436) (fun _ h9 => h9) rfl (by decide +kernel) rfl rfl (Nat.le_of_ble_eq_true rfl) dX5_match_62 (fun H locs hR hS => ?_)
                have hR := HC_Order_rest k25 0 hR
                have hKA := KA_same (b := pI σ 35 k25 0 0) hKA ⟨rfl, rfl, rfl, rfl, rfl, rfl, rfl⟩
                have hLX := LX_same (b := pI σ 35 k25 0 0) hLX ⟨rfl, rfl, rfl, rfl, rfl, rfl, rfl⟩
                refine lv_goto (tgt := 103) hx hb dX5_match_65 (by decide) ?_
                obtain ⟨x43, hx43⟩ : ∃ y : Int32, y = v2 + 1 := ⟨_, rfl⟩
                have hf := kst_eq hx43 hf
                refine lv_iinc (v := x43) (lv' := [(2, .int x43), (3, .ref (ad 17 k25)), (0, .ref (ad 0 0)), (1, .ref (ad 17 v1))]) hx hb dX5_match_103 hl (k := 1) rfl (by rw [hx43]; rfl) (by decide) rfl (fun ls hl => ?_)
                refine lv_goto (tgt := 2) hx hb dX5_match_106 (by decide) ?_
                exact ih _ _ _ ad _ _ _ _ (pI σ 35 k25 0 0) x43 v1 hv1 hKA hLX hm hn hR hS (lv_sub hl [0, 2, 3] rfl) hf
            · have hf := if_of_neg hf (fun q => q c28)
              cases hf
              exact reta_v hC hKA hLX hR hS (nfin hm) (nfin hn) dX5_match_48
def fX5_match (σ : St) (a1 : Nat) : Option ((St) × Nat × Nat) := fX5_match_L2 1000 σ 0 a1
set_option maxHeartbeats 4000000 in
set_option maxRecDepth 100000 in
theorem mX5_match (l : Launch) (D : va_G) (dA : Nat → ClassId) (ad : Nat → Nat → Nat) (σ : St) (sz x mi : Nat) (a1 : Nat) (σ' : St) (mc ms : Nat) (hf : fX5_match σ a1 = some (σ', mc, ms)) (ha1 : cvC σ 17 a1) : Met l yX5_match (WSy yX5_match cX5_match 5 none) ({ frames := 9, cells := mc, slots := ms, locals := 225 } : Room) (va_Pc [.ref (ad 0 0), .ref (ad 17 a1)] (PreA D dA ad σ x mi sz)) (va_Qv (fun (ad' : Nat → Nat → Nat) => KA [15] ad ad' σ σ' ∧ LX ad' σ' x) (fun ad' t => HC D dA (WA ad (cvC σ) sz) ad' σ' t.heap) (WA ad (cvC σ) sz)) mc ms (WA ad (cvC σ) sz) := by
  refine met_of (by decide) (Nat.le_of_ble_eq_true rfl) ?_
  intro p e s m below meth c ls hC hB hl
  obtain ⟨rfl, hR, hK, hX, hLX⟩ := hB
  have hA : ∀ q : Nat, s.heap.size ≤ q → WA ad (cvC σ) s.heap.size q := fun q h => Or.inr h
  have hR := WW_fit (B := WA ad (cvC σ) s.heap.size) hR (fun f i h => WA_in h)
  have hS : va_S (WA ad (cvC σ) s.heap.size) s.heap s.heap [] := va_S.rf
  generalize WA ad (cvC σ) s.heap.size = A0 at hA hR hS hX ⊢
  have hC : CTX p s m _ meth c cX5_match 5 RX5 none := hC
  obtain ⟨hx, hb, hml, hown, hts, hr, hlk⟩ := id hC
  have hl : lv_has ls 5 [(0, .ref (ad 0 0)), (1, .ref (ad 17 a1))] := hl
  have hKA : KA [15] ad ad σ σ := KA_rf _ _ _
  have hm : mc = 0 + mc := (Nat.zero_add mc).symm
  have hn : ms = 0 + ms := (Nat.zero_add ms).symm
  unfold fX5_match at hf
  refine lv_iconst (v := 0) hx hb dX5_match_0 (by decide) ?_
  refine lv_istore_n (lv' := [(2, .int 0), (0, .ref (ad 0 0)), (1, .ref (ad 17 a1))]) hx hb dX5_match_1 rfl hl (by decide) rfl (fun ls hl => ?_)
  exact wX5_match_L2 hC hK hA hX 1000 _ _ _ ad _ _ _ _ σ 0 a1 ha1 hKA hLX hm hn hR hS (lv_sub hl [0, 1, 2] rfl) hf
def fX5_closePosition_L13 : Nat → St → Int32 → Nat → Int32 → Int32 → Option ((St) × Nat × Nat)
  | 0, _, _, _, _, _ => none
  | n + 1, σ, v4, v3, v1, v2 => if 100 ≤ v4 then some (σ, 0, 0) else gd (vin v2 3) (if (gI σ 4 v3 v2.toNatClampNeg) = 0 then some (σ, 0, 0) else if (gI σ 4 v3 v2.toNatClampNeg) ≤ 0 then bd (fX5_bestResting σ v2 0) (fun q6 => oc q6 (some (σ, 0, 0)) (fun k7 => gd (k7 < gN σ 5) (bt2 (fX5_tradeWithResting σ v1 k7 (if (if 0 ≤ (gI σ 4 v3 v2.toNatClampNeg) then (gI σ 4 v3 v2.toNatClampNeg) else 0 - (gI σ 4 v3 v2.toNatClampNeg)) < (gI σ 35 k7 0) then (if 0 ≤ (gI σ 4 v3 v2.toNatClampNeg) then (gI σ 4 v3 v2.toNatClampNeg) else 0 - (gI σ 4 v3 v2.toNatClampNeg)) else (gI σ 35 k7 0))) (fun q9 => kst (v4 + 1) (fun x19 => fX5_closePosition_L13 n q9 x19 v3 v1 v2))))) else bd (fX5_bestResting σ v2 1) (fun q20 => oc q20 (some (σ, 0, 0)) (fun k21 => gd (k21 < gN σ 5) (bt2 (fX5_tradeWithResting σ v1 k21 (if (if 0 ≤ (gI σ 4 v3 v2.toNatClampNeg) then (gI σ 4 v3 v2.toNatClampNeg) else 0 - (gI σ 4 v3 v2.toNatClampNeg)) < (gI σ 35 k21 0) then (if 0 ≤ (gI σ 4 v3 v2.toNatClampNeg) then (gI σ 4 v3 v2.toNatClampNeg) else 0 - (gI σ 4 v3 v2.toNatClampNeg)) else (gI σ 35 k21 0))) (fun q23 => kst (v4 + 1) (fun x33 => fX5_closePosition_L13 n q23 x33 v3 v1 v2))))))
set_option maxHeartbeats 4000000 in
set_option maxRecDepth 100000 in
theorem wX5_closePosition_L13 {p : Program} {l : Launch} {e : Env} {s : State} {m : MethodId} {args : Array Value} {below : List Frame} {meth : Method} {c : Code} {D : va_G} {dA : Nat → ClassId} {A0 : Nat → Prop} {x mi mc ms : Nat} {ad0 : Nat → Nat → Nat} {σ0 : St} {σ' : St} (hC : CTX p s m args meth c cX5_closePosition 6 RX5 none) (hK : KS D dA s) (hA : ∀ q, s.heap.size ≤ q → A0 q) (hX : EXT x mi A0 s s.heap) : ∀ (n : Nat) (H : Heap) (locs : List Loc) (ls : Array Slot) (ad : Nat → Nat → Nat) (c0 s0 mr sr : Nat) (σ : St) (v4 : Int32) (v3 : Nat) (v1 : Int32) (v2 : Int32) (hv3 : cvC σ 4 v3), KA [15] ad0 ad σ0 σ → LX ad σ x → mc = c0 + mr → ms = s0 + sr → HC D dA A0 ad σ H → va_S A0 s.heap H locs → lv_has ls 6 [(4, .int v4), (3, .ref (ad 4 v3)), (0, .ref (ad 0 0)), (1, .int v1), (2, .int v2)] → fX5_closePosition_L13 n σ v4 v3 v1 v2 = some (σ', mr, sr) → W p l e ({ frames := 9, cells := mc, slots := ms, locals := 225 } : Room) s m args below meth c H locs c0 s0 (MQ below (va_Qv (fun (ad' : Nat → Nat → Nat) => KA [15] ad0 ad' σ0 σ' ∧ LX ad' σ' x) (fun ad' t => HC D dA A0 ad' σ' t.heap) A0) args s mc ms A0) (F0 m 13 ls []) := by
  obtain ⟨hx, hb, hml, hown, hts, hr, hlk⟩ := id hC
  intro n
  induction n with
  | zero =>
    intro H locs ls ad c0 s0 mr sr σ v4 v3 v1 v2 hv3 hKA hLX hm hn hR hS hl hf
    rw [fX5_closePosition_L13.eq_1] at hf
    cases hf
  | succ n ih =>
    intro H locs ls ad c0 s0 mr sr σ v4 v3 v1 v2 hv3 hKA hLX hm hn hR hS hl hf
    rw [fX5_closePosition_L13.eq_2] at hf
    refine lv_iload hx hb dX5_closePosition_13 (lv_at hl 0 rfl) ?_
    refine lv_bipush (v := 100) hx hb dX5_closePosition_15 (by decide) ?_
    refine lv_icmp_ge (tgt := 77) hx hb dX5_closePosition_17 (by decide) (fun c2 => ?_) (fun c2 => ?_)
    · have hf := if_of_pos hf c2
      cases hf
      exact reta_v hC hKA hLX hR hS (nfin hm) (nfin hn) dX5_closePosition_77
    · have hf := if_of_neg hf c2
      refine lv_aload_n hx hb dX5_closePosition_20 rfl (lv_at hl 1 rfl) ?_
      refine lv_iload_n hx hb dX5_closePosition_21 rfl (lv_at hl 4 rfl) ?_
      obtain ⟨g3, hf⟩ := gd_of hf
      refine va_iald hx hb hK.1 (WW_one hR (f := 4) (i := v3) hv3) 0 0 rfl rfl g3 dX5_closePosition_22 ?_
      refine lv_if_eq (tgt := 77) hx hb dX5_closePosition_23 (by decide) (fun c4 => ?_) (fun c4 => ?_)
      · have hf := if_of_pos hf c4
        cases hf
        exact reta_v hC hKA hLX hR hS (nfin hm) (nfin hn) dX5_closePosition_77
      · have hf := if_of_neg hf c4
        refine lv_aload_n hx hb dX5_closePosition_26 rfl (lv_at hl 2 rfl) ?_
        refine lv_iload_n hx hb dX5_closePosition_27 rfl (lv_at hl 4 rfl) ?_
        refine lv_aload_n hx hb dX5_closePosition_28 rfl (lv_at hl 1 rfl) ?_
        refine lv_iload_n hx hb dX5_closePosition_29 rfl (lv_at hl 4 rfl) ?_
        refine va_iald hx hb hK.1 (WW_one hR (f := 4) (i := v3) hv3) 0 0 rfl rfl g3 dX5_closePosition_30 ?_
        refine lv_if_le (tgt := 38) hx hb dX5_closePosition_31 (by decide) (fun c5 => ?_) (fun c5 => ?_)
        · have hf := if_of_pos hf c5
          refine lv_iconst (v := 0) hx hb dX5_closePosition_38 (by decide) ?_
          obtain ⟨q6, hcq6, hf⟩ := bd_of hf
          refine kc_q (va_runV (As := [.int v2, .int 0]) (rest := []) ⟨hx, hb, hml, hown, hts⟩ (mX5_bestResting l D dA ad σ _ v2 0 q6 hcq6) (cwV 2 hts gX5_142 rfl rfl rfl (by decide +kernel) ⟨Nat.le_of_ble_eq_true rfl, Nat.le_of_ble_eq_true rfl⟩) (preV_of hR hK (f := 0) (i := 0) rfl rfl rfl _) rfl rfl hl.1 rfl (lv_room (Nat.le_of_ble_eq_true rfl)) dX5_closePosition_39 ⟨nle0 hm, nle0 hn⟩) hA hR hS (fun H locs hR hS => ?_)
          cases q6 with
          | none =>
            have hf := oc_n hf
            refine lv_astoreN (lv' := [(5, .null), (4, .int v4), (3, .ref (ad 4 v3)), (0, .ref (ad 0 0)), (1, .int v1), (2, .int v2)]) hx hb dX5_closePosition_42 hl (by decide) rfl (fun ls hl => ?_)
            refine lv_aloadN hx hb dX5_closePosition_44 (lv_at hl 0 rfl) ?_
            refine lv_ifnonnullN hx hb dX5_closePosition_46 ?_
            cases hf
            exact reta_v hC hKA hLX hR hS (nfin hm) (nfin hn) dX5_closePosition_49
          | some k7 =>
            have hf := oc_s hf
            obtain ⟨g8, hf⟩ := gd_of hf
            refine lv_astore (lv' := [(5, .ref (ad 17 k7)), (4, .int v4), (3, .ref (ad 4 v3)), (0, .ref (ad 0 0)), (1, .int v1), (2, .int v2)]) hx hb dX5_closePosition_42 hl (by decide) rfl (fun ls hl => ?_)
            refine lv_aload hx hb dX5_closePosition_44 (lv_at hl 0 rfl) ?_
            refine lv_ifnonnull (tgt := 50) hx hb dX5_closePosition_46 (by decide) ?_
            refine lv_aload_n hx hb dX5_closePosition_50 rfl (lv_at hl 3 rfl) ?_
            refine lv_iload_n hx hb dX5_closePosition_51 rfl (lv_at hl 4 rfl) ?_
            refine lv_aload hx hb dX5_closePosition_52 (lv_at hl 0 rfl) ?_
            refine lv_aload hx hb dX5_closePosition_54 (lv_at hl 0 rfl) ?_
            refine va_getN (D := D) (ci := 3) (C := RX2) (T := TX2) (N := 6) hx hb hts iuX2 hown hK.1 (WW_one hR (f := 17) (i := k7) g8) 0 rfl rfl 5 (by decide) (nw_f hK.2 q_436) (fun _ h9 => h9) rfl dX5_closePosition_56 ?_
            refine lv_aload_n hx hb dX5_closePosition_59 rfl (lv_at hl 2 rfl) ?_
            refine lv_iload_n hx hb dX5_closePosition_60 rfl (lv_at hl 5 rfl) ?_
            refine va_iald hx hb hK.1 (WW_one hR (f := 4) (i := v3) hv3) 0 0 rfl rfl g3 dX5_closePosition_61 ?_
            refine va_mabs hx hb (hml.trans hl.1.symm) hown (hts _ q_726) (hts _ q_727) (hts _ q_48) (hts _ q_728) (Nat.le_of_ble_eq_true rfl) (Nat.le_of_ble_eq_true rfl) (nle1 hm) (nle1 hn) dX5_closePosition_62 ?_
            refine va_mmin hx hb (hml.trans hl.1.symm) hown (hts _ q_340) (hts _ q_341) (hts _ q_48) (hts _ q_342) (Nat.le_of_ble_eq_true rfl) (Nat.le_of_ble_eq_true rfl) (nle1 hm) (nle1 hn) dX5_closePosition_65 ?_
            obtain ⟨q9, m10, n11, m12, n13, hcq9, hf, hem, hen⟩ := bt2_of hf
            refine kca_v (va_runV (As := [.int v1, .ref (ad 17 k7), .int (if (if 0 ≤ (gI σ 4 v3 v2.toNatClampNeg) then (gI σ 4 v3 v2.toNatClampNeg) else 0 - (gI σ 4 v3 v2.toNatClampNeg)) < (gI σ 35 k7 0) then (if 0 ≤ (gI σ 4 v3 v2.toNatClampNeg) then (gI σ 4 v3 v2.toNatClampNeg) else 0 - (gI σ 4 v3 v2.toNatClampNeg)) else (gI σ 35 k7 0))]) (rest := []) ⟨hx, hb, hml, hown, hts⟩ (mX5_tradeWithResting l D dA ad σ _ x mi v1 k7 (if (if 0 ≤ (gI σ 4 v3 v2.toNatClampNeg) then (gI σ 4 v3 v2.toNatClampNeg) else 0 - (gI σ 4 v3 v2.toNatClampNeg)) < (gI σ 35 k7 0) then (if 0 ≤ (gI σ 4 v3 v2.toNatClampNeg) then (gI σ 4 v3 v2.toNatClampNeg) else 0 - (gI σ 4 v3 v2.toNatClampNeg)) else (gI σ 35 k7 0)) q9 m10 n11 hcq9 g8) (cwV 3 hts gX5_229 rfl rfl rfl (by decide +kernel) ⟨Nat.le_of_ble_eq_true rfl, Nat.le_of_ble_eq_true rfl⟩) (preVA_of hA hR hS hK hX hLX _) rfl rfl hl.1 rfl (lv_room (Nat.le_of_ble_eq_true rfl)) dX5_closePosition_68 ⟨nle hm hem, nle hn hen⟩) hA hR hS (fun ad14 H locs hka hLX hR hS => ?_)
            have e15 := (hka 17 k7 g8 (by decide)).1
            have w16 := (hka 17 k7 g8 (by decide)).2
            have e17 := (hka 4 v3 hv3 (by decide)).1
            have e18 := (hka 0 0 rfl (by decide)).1
            have hl : lv_has ls 6 [(5, .ref (ad14 17 k7)), (4, .int v4), (3, .ref (ad14 4 v3)), (0, .ref (ad14 0 0)), (1, .int v1), (2, .int v2)] := by rw [e15, e17, e18]; exact hl
            have hKA := KA_tr hKA hka (by decide)
            have hm := nadd hm hem
            have hn := nadd hn hen
            obtain ⟨x19, hx19⟩ : ∃ y : Int32, y = v4 + 1 := ⟨_, rfl⟩
            have hf := kst_eq hx19 hf
            refine lv_iinc (v := x19) (lv' := [(4, .int x19), (5, .ref (ad14 17 k7)), (3, .ref (ad14 4 v3)), (0, .ref (ad14 0 0)), (1, .int v1), (2, .int v2)]) hx hb dX5_closePosition_71 hl (k := 1) rfl (by rw [hx19]; rfl) (by decide) rfl (fun ls hl => ?_)
            refine lv_goto (tgt := 13) hx hb dX5_closePosition_74 (by decide) ?_
            exact ih _ _ _ ad14 _ _ _ _ q9 x19 v3 v1 v2 hv3 hKA hLX hm hn hR hS (lv_sub hl [0, 2, 3, 4, 5] rfl) hf
        · have hf := if_of_neg hf c5
          refine lv_iconst (v := 1) hx hb dX5_closePosition_34 (by decide) ?_
          refine lv_goto (tgt := 39) hx hb dX5_closePosition_35 (by decide) ?_
          obtain ⟨q20, hcq20, hf⟩ := bd_of hf
          refine kc_q (va_runV (As := [.int v2, .int 1]) (rest := []) ⟨hx, hb, hml, hown, hts⟩ (mX5_bestResting l D dA ad σ _ v2 1 q20 hcq20) (cwV 2 hts gX5_142 rfl rfl rfl (by decide +kernel) ⟨Nat.le_of_ble_eq_true rfl, Nat.le_of_ble_eq_true rfl⟩) (preV_of hR hK (f := 0) (i := 0) rfl rfl rfl _) rfl rfl hl.1 rfl (lv_room (Nat.le_of_ble_eq_true rfl)) dX5_closePosition_39 ⟨nle0 hm, nle0 hn⟩) hA hR hS (fun H locs hR hS => ?_)
          cases q20 with
          | none =>
            have hf := oc_n hf
            refine lv_astoreN (lv' := [(5, .null), (4, .int v4), (3, .ref (ad 4 v3)), (0, .ref (ad 0 0)), (1, .int v1), (2, .int v2)]) hx hb dX5_closePosition_42 hl (by decide) rfl (fun ls hl => ?_)
            refine lv_aloadN hx hb dX5_closePosition_44 (lv_at hl 0 rfl) ?_
            refine lv_ifnonnullN hx hb dX5_closePosition_46 ?_
            cases hf
            exact reta_v hC hKA hLX hR hS (nfin hm) (nfin hn) dX5_closePosition_49
          | some k21 =>
            have hf := oc_s hf
            obtain ⟨g22, hf⟩ := gd_of hf
            refine lv_astore (lv' := [(5, .ref (ad 17 k21)), (4, .int v4), (3, .ref (ad 4 v3)), (0, .ref (ad 0 0)), (1, .int v1), (2, .int v2)]) hx hb dX5_closePosition_42 hl (by decide) rfl (fun ls hl => ?_)
            refine lv_aload hx hb dX5_closePosition_44 (lv_at hl 0 rfl) ?_
            refine lv_ifnonnull (tgt := 50) hx hb dX5_closePosition_46 (by decide) ?_
            refine lv_aload_n hx hb dX5_closePosition_50 rfl (lv_at hl 3 rfl) ?_
            refine lv_iload_n hx hb dX5_closePosition_51 rfl (lv_at hl 4 rfl) ?_
            refine lv_aload hx hb dX5_closePosition_52 (lv_at hl 0 rfl) ?_
            refine lv_aload hx hb dX5_closePosition_54 (lv_at hl 0 rfl) ?_
            refine va_getN (D := D) (ci := 3) (C := RX2) (T := TX2) (N := 6) hx hb hts iuX2 hown hK.1 (WW_one hR (f := 17) (i := k21) g22) 0 rfl rfl 5 (by decide) (nw_f hK.2 q_436) (fun _ h9 => h9) rfl dX5_closePosition_56 ?_
            refine lv_aload_n hx hb dX5_closePosition_59 rfl (lv_at hl 2 rfl) ?_
            refine lv_iload_n hx hb dX5_closePosition_60 rfl (lv_at hl 5 rfl) ?_
            refine va_iald hx hb hK.1 (WW_one hR (f := 4) (i := v3) hv3) 0 0 rfl rfl g3 dX5_closePosition_61 ?_
            refine va_mabs hx hb (hml.trans hl.1.symm) hown (hts _ q_726) (hts _ q_727) (hts _ q_48) (hts _ q_728) (Nat.le_of_ble_eq_true rfl) (Nat.le_of_ble_eq_true rfl) (nle1 hm) (nle1 hn) dX5_closePosition_62 ?_
            refine va_mmin hx hb (hml.trans hl.1.symm) hown (hts _ q_340) (hts _ q_341) (hts _ q_48) (hts _ q_342) (Nat.le_of_ble_eq_true rfl) (Nat.le_of_ble_eq_true rfl) (nle1 hm) (nle1 hn) dX5_closePosition_65 ?_
            obtain ⟨q23, m24, n25, m26, n27, hcq23, hf, hem, hen⟩ := bt2_of hf
            refine kca_v (va_runV (As := [.int v1, .ref (ad 17 k21), .int (if (if 0 ≤ (gI σ 4 v3 v2.toNatClampNeg) then (gI σ 4 v3 v2.toNatClampNeg) else 0 - (gI σ 4 v3 v2.toNatClampNeg)) < (gI σ 35 k21 0) then (if 0 ≤ (gI σ 4 v3 v2.toNatClampNeg) then (gI σ 4 v3 v2.toNatClampNeg) else 0 - (gI σ 4 v3 v2.toNatClampNeg)) else (gI σ 35 k21 0))]) (rest := []) ⟨hx, hb, hml, hown, hts⟩ (mX5_tradeWithResting l D dA ad σ _ x mi v1 k21 (if (if 0 ≤ (gI σ 4 v3 v2.toNatClampNeg) then (gI σ 4 v3 v2.toNatClampNeg) else 0 - (gI σ 4 v3 v2.toNatClampNeg)) < (gI σ 35 k21 0) then (if 0 ≤ (gI σ 4 v3 v2.toNatClampNeg) then (gI σ 4 v3 v2.toNatClampNeg) else 0 - (gI σ 4 v3 v2.toNatClampNeg)) else (gI σ 35 k21 0)) q23 m24 n25 hcq23 g22) (cwV 3 hts gX5_229 rfl rfl rfl (by decide +kernel) ⟨Nat.le_of_ble_eq_true rfl, Nat.le_of_ble_eq_true rfl⟩) (preVA_of hA hR hS hK hX hLX _) rfl rfl hl.1 rfl (lv_room (Nat.le_of_ble_eq_true rfl)) dX5_closePosition_68 ⟨nle hm hem, nle hn hen⟩) hA hR hS (fun ad28 H locs hka hLX hR hS => ?_)
            have e29 := (hka 17 k21 g22 (by decide)).1
            have w30 := (hka 17 k21 g22 (by decide)).2
            have e31 := (hka 4 v3 hv3 (by decide)).1
            have e32 := (hka 0 0 rfl (by decide)).1
            have hl : lv_has ls 6 [(5, .ref (ad28 17 k21)), (4, .int v4), (3, .ref (ad28 4 v3)), (0, .ref (ad28 0 0)), (1, .int v1), (2, .int v2)] := by rw [e29, e31, e32]; exact hl
            have hKA := KA_tr hKA hka (by decide)
            have hm := nadd hm hem
            have hn := nadd hn hen
            obtain ⟨x33, hx33⟩ : ∃ y : Int32, y = v4 + 1 := ⟨_, rfl⟩
            have hf := kst_eq hx33 hf
            refine lv_iinc (v := x33) (lv' := [(4, .int x33), (5, .ref (ad28 17 k21)), (3, .ref (ad28 4 v3)), (0, .ref (ad28 0 0)), (1, .int v1), (2, .int v2)]) hx hb dX5_closePosition_71 hl (k := 1) rfl (by rw [hx33]; rfl) (by decide) rfl (fun ls hl => ?_)
            refine lv_goto (tgt := 13) hx hb dX5_closePosition_74 (by decide) ?_
            exact ih _ _ _ ad28 _ _ _ _ q23 x33 v3 v1 v2 hv3 hKA hLX hm hn hR hS (lv_sub hl [0, 2, 3, 4, 5] rfl) hf
def fX5_closePosition (σ : St) (a1 : Int32) (a2 : Int32) : Option ((St) × Nat × Nat) := gd (vin a1 5) (fX5_closePosition_L13 1000 σ 0 a1.toNatClampNeg a1 a2)
set_option maxHeartbeats 4000000 in
set_option maxRecDepth 100000 in
theorem mX5_closePosition (l : Launch) (D : va_G) (dA : Nat → ClassId) (ad : Nat → Nat → Nat) (σ : St) (sz x mi : Nat) (a1 : Int32) (a2 : Int32) (σ' : St) (mc ms : Nat) (hf : fX5_closePosition σ a1 a2 = some (σ', mc, ms)) : Met l yX5_closePosition (WSy yX5_closePosition cX5_closePosition 6 none) ({ frames := 9, cells := mc, slots := ms, locals := 225 } : Room) (va_Pc [.ref (ad 0 0), .int a1, .int a2] (PreA D dA ad σ x mi sz)) (va_Qv (fun (ad' : Nat → Nat → Nat) => KA [15] ad ad' σ σ' ∧ LX ad' σ' x) (fun ad' t => HC D dA (WA ad (cvC σ) sz) ad' σ' t.heap) (WA ad (cvC σ) sz)) mc ms (WA ad (cvC σ) sz) := by
  refine met_of (by decide) (Nat.le_of_ble_eq_true rfl) ?_
  intro p e s m below meth c ls hC hB hl
  obtain ⟨rfl, hR, hK, hX, hLX⟩ := hB
  have hA : ∀ q : Nat, s.heap.size ≤ q → WA ad (cvC σ) s.heap.size q := fun q h => Or.inr h
  have hR := WW_fit (B := WA ad (cvC σ) s.heap.size) hR (fun f i h => WA_in h)
  have hS : va_S (WA ad (cvC σ) s.heap.size) s.heap s.heap [] := va_S.rf
  generalize WA ad (cvC σ) s.heap.size = A0 at hA hR hS hX ⊢
  have hC : CTX p s m _ meth c cX5_closePosition 6 RX5 none := hC
  obtain ⟨hx, hb, hml, hown, hts, hr, hlk⟩ := id hC
  have hl : lv_has ls 6 [(0, .ref (ad 0 0)), (1, .int a1), (2, .int a2)] := hl
  have hKA : KA [15] ad ad σ σ := KA_rf _ _ _
  have hm : mc = 0 + mc := (Nat.zero_add mc).symm
  have hn : ms = 0 + ms := (Nat.zero_add ms).symm
  unfold fX5_closePosition at hf
  refine lv_aload_n hx hb dX5_closePosition_0 rfl (lv_at hl 0 rfl) ?_
  refine va_get (D := D) (ci := 6) (C := RX5) (T := TX5) (N := 8) hx hb hts iuX5 hown hK.1 (WW_one hR (f := 0) (i := 0) rfl) 0 rfl rfl 0 (by decide) (hts _ q_164) (fun _ h9 => h9) rfl dX5_closePosition_1 ?_
  refine lv_iload_n hx hb dX5_closePosition_4 rfl (lv_at hl 1 rfl) ?_
  obtain ⟨g1, hf⟩ := gd_of hf
  refine va_aldq (C := RX0) hx hb hK.1 (WW_one hR (f := 1) (i := 0) rfl) 0 3 rfl rfl g1 dX5_closePosition_5 ?_
  refine va_getN (D := D) (ci := 1) (C := RX0) (T := TX0) (N := 8) hx hb hts iuX0 hown hK.1 (WW_one hR (f := 2) (i := a1.toNatClampNeg) (vin_lt g1)) 0 rfl rfl 6 (by decide) (nw_f hK.2 q_111) (fun _ h9 => h9) rfl dX5_closePosition_6 ?_
  refine lv_astore_n (lv' := [(3, .ref (ad 4 a1.toNatClampNeg)), (0, .ref (ad 0 0)), (1, .int a1), (2, .int a2)]) hx hb dX5_closePosition_9 rfl hl (by decide) rfl (fun ls hl => ?_)
  refine lv_iconst (v := 0) hx hb dX5_closePosition_10 (by decide) ?_
  refine lv_istore (lv' := [(4, .int 0), (3, .ref (ad 4 a1.toNatClampNeg)), (0, .ref (ad 0 0)), (1, .int a1), (2, .int a2)]) hx hb dX5_closePosition_11 hl (by decide) rfl (fun ls hl => ?_)
  exact wX5_closePosition_L13 hC hK hA hX 1000 _ _ _ ad _ _ _ _ σ 0 a1.toNatClampNeg a1 a2 (vin_lt g1) hKA hLX hm hn hR hS (lv_sub hl [0, 1, 2, 3, 4] rfl) hf
def fX5_handOver (σ : St) (a1 : Int32) (a2 : Int32) (a3 : Int32) : Option ((St) × Nat × Nat) := gd (vin a1 5) (gd (vin a3 3) (kst (gI σ 4 a1.toNatClampNeg a3.toNatClampNeg) (fun x3 => kst (gI σ 2 a3.toNatClampNeg 0) (fun x4 => if ¬ a2 = (-1) then if x3 ≤ 0 then bt2 (fX5_trade σ a1 a2 a3 (-x3) x4) (fun q7 => some (q7, 0, 0)) else bt2 (fX5_trade σ a2 a1 a3 x3 x4) (fun q14 => some (q14, 0, 0)) else bt2 (fX5_drop σ a1 a3 x3 x4) (fun q21 => some (q21, 0, 0))))))
set_option maxHeartbeats 4000000 in
set_option maxRecDepth 100000 in
theorem mX5_handOver (l : Launch) (D : va_G) (dA : Nat → ClassId) (ad : Nat → Nat → Nat) (σ : St) (sz x mi : Nat) (a1 : Int32) (a2 : Int32) (a3 : Int32) (σ' : St) (mc ms : Nat) (hf : fX5_handOver σ a1 a2 a3 = some (σ', mc, ms)) : Met l yX5_handOver (WSy yX5_handOver cX5_handOver 6 none) ({ frames := 8, cells := mc, slots := ms, locals := 202 } : Room) (va_Pc [.ref (ad 0 0), .int a1, .int a2, .int a3] (PreA D dA ad σ x mi sz)) (va_Qv (fun (ad' : Nat → Nat → Nat) => KA [15] ad ad' σ σ' ∧ LX ad' σ' x) (fun ad' t => HC D dA (WA ad (cvC σ) sz) ad' σ' t.heap) (WA ad (cvC σ) sz)) mc ms (WA ad (cvC σ) sz) := by
  refine met_of (by decide) (Nat.le_of_ble_eq_true rfl) ?_
  intro p e s m below meth c ls hC hB hl
  obtain ⟨rfl, hR, hK, hX, hLX⟩ := hB
  have hA : ∀ q : Nat, s.heap.size ≤ q → WA ad (cvC σ) s.heap.size q := fun q h => Or.inr h
  have hR := WW_fit (B := WA ad (cvC σ) s.heap.size) hR (fun f i h => WA_in h)
  have hS : va_S (WA ad (cvC σ) s.heap.size) s.heap s.heap [] := va_S.rf
  generalize WA ad (cvC σ) s.heap.size = A0 at hA hR hS hX ⊢
  have hC : CTX p s m _ meth c cX5_handOver 6 RX5 none := hC
  obtain ⟨hx, hb, hml, hown, hts, hr, hlk⟩ := id hC
  have hl : lv_has ls 6 [(0, .ref (ad 0 0)), (1, .int a1), (2, .int a2), (3, .int a3)] := hl
  have hKA : KA [15] ad ad σ σ := KA_rf _ _ _
  have hm : mc = 0 + mc := (Nat.zero_add mc).symm
  have hn : ms = 0 + ms := (Nat.zero_add ms).symm
  unfold fX5_handOver at hf
  refine lv_aload_n hx hb dX5_handOver_0 rfl (lv_at hl 0 rfl) ?_
  refine va_get (D := D) (ci := 6) (C := RX5) (T := TX5) (N := 8) hx hb hts iuX5 hown hK.1 (WW_one hR (f := 0) (i := 0) rfl) 0 rfl rfl 0 (by decide) (hts _ q_164) (fun _ h9 => h9) rfl dX5_handOver_1 ?_
  refine lv_iload_n hx hb dX5_handOver_4 rfl (lv_at hl 1 rfl) ?_
  obtain ⟨g1, hf⟩ := gd_of hf
  refine va_aldq (C := RX0) hx hb hK.1 (WW_one hR (f := 1) (i := 0) rfl) 0 3 rfl rfl g1 dX5_handOver_5 ?_
  refine va_getN (D := D) (ci := 1) (C := RX0) (T := TX0) (N := 8) hx hb hts iuX0 hown hK.1 (WW_one hR (f := 2) (i := a1.toNatClampNeg) (vin_lt g1)) 0 rfl rfl 6 (by decide) (nw_f hK.2 q_111) (fun _ h9 => h9) rfl dX5_handOver_6 ?_
  refine lv_iload_n hx hb dX5_handOver_9 rfl (lv_at hl 3 rfl) ?_
  obtain ⟨g2, hf⟩ := gd_of hf
  refine va_iald hx hb hK.1 (WW_one hR (f := 4) (i := a1.toNatClampNeg) (vin_lt g1)) 0 0 rfl rfl g2 dX5_handOver_10 ?_
  refine lv_topi (fun x3 hx3 => ?_)
  have hf := kst_eq hx3 hf
  refine lv_istore (lv' := [(4, .int x3), (0, .ref (ad 0 0)), (1, .int a1), (2, .int a2), (3, .int a3)]) hx hb dX5_handOver_11 hl (by decide) rfl (fun ls hl => ?_)
  refine lv_aload_n hx hb dX5_handOver_13 rfl (lv_at hl 1 rfl) ?_
  refine va_get (D := D) (ci := 6) (C := RX5) (T := TX5) (N := 8) hx hb hts iuX5 hown hK.1 (WW_one hR (f := 0) (i := 0) rfl) 0 rfl rfl 1 (by decide) (hts _ q_165) (fun _ h9 => h9) rfl dX5_handOver_14 ?_
  refine lv_iload_n hx hb dX5_handOver_17 rfl (lv_at hl 4 rfl) ?_
  refine va_aldq (C := RX3) hx hb hK.1 (WW_one hR (f := 6) (i := 0) rfl) 0 4 rfl rfl g2 dX5_handOver_18 ?_
  refine va_getN (D := D) (ci := 4) (C := RX3) (T := TX3) (N := 3) hx hb hts iuX3 hown hK.1 (WW_one hR (f := 7) (i := a3.toNatClampNeg) (vin_lt g2)) 0 rfl rfl 0 (by decide) (nw_f hK.2 q_139) (fun _ h9 => h9) rfl dX5_handOver_19 ?_
  refine lv_topi (fun x4 hx4 => ?_)
  have hf := kst_eq hx4 hf
  refine lv_istore (lv' := [(5, .int x4), (4, .int x3), (0, .ref (ad 0 0)), (1, .int a1), (2, .int a2), (3, .int a3)]) hx hb dX5_handOver_22 hl (by decide) rfl (fun ls hl => ?_)
  refine lv_iload_n hx hb dX5_handOver_24 rfl (lv_at hl 4 rfl) ?_
  refine lv_iconst (v := (-1)) hx hb dX5_handOver_25 (by decide) ?_
  refine lv_icmp_ne (tgt := 42) hx hb dX5_handOver_26 (by decide) (fun c5 => ?_) (fun c5 => ?_)
  · have hf := if_of_pos hf c5
    refine lv_iload hx hb dX5_handOver_42 (lv_at hl 1 rfl) ?_
    refine lv_if_le (tgt := 61) hx hb dX5_handOver_44 (by decide) (fun c6 => ?_) (fun c6 => ?_)
    · have hf := if_of_pos hf c6
      refine lv_aload_n hx hb dX5_handOver_61 rfl (lv_at hl 2 rfl) ?_
      refine lv_iload_n hx hb dX5_handOver_62 rfl (lv_at hl 3 rfl) ?_
      refine lv_iload_n hx hb dX5_handOver_63 rfl (lv_at hl 4 rfl) ?_
      refine lv_iload_n hx hb dX5_handOver_64 rfl (lv_at hl 5 rfl) ?_
      refine lv_iload hx hb dX5_handOver_65 (lv_at hl 1 rfl) ?_
      refine lv_ineg hx hb dX5_handOver_67 ?_
      refine lv_iload hx hb dX5_handOver_68 (lv_at hl 0 rfl) ?_
      obtain ⟨q7, m8, n9, m10, n11, hcq7, hf, hem, hen⟩ := bt2_of hf
      refine kca_v (va_runV (As := [.int a1, .int a2, .int a3, .int (-x3), .int x4]) (rest := []) ⟨hx, hb, hml, hown, hts⟩ (mX5_trade l D dA ad σ _ x mi a1 a2 a3 (-x3) x4 q7 m8 n9 hcq7) (cwV 5 hts gX5_233 rfl rfl rfl (by decide +kernel) ⟨Nat.le_of_ble_eq_true rfl, Nat.le_of_ble_eq_true rfl⟩) (preVA_of hA hR hS hK hX hLX _) rfl rfl hl.1 rfl (lv_room (Nat.le_of_ble_eq_true rfl)) dX5_handOver_70 ⟨nle hm hem, nle hn hen⟩) hA hR hS (fun ad12 H locs hka hLX hR hS => ?_)
      have e13 := (hka 0 0 rfl (by decide)).1
      have hl : lv_has ls 6 [(5, .int x4), (4, .int x3), (0, .ref (ad12 0 0)), (1, .int a1), (2, .int a2), (3, .int a3)] := by rw [e13]; exact hl
      have hKA := KA_tr hKA hka (by decide)
      have hm := nadd hm hem
      have hn := nadd hn hen
      cases hf
      exact reta_v hC hKA hLX hR hS (nfin hm) (nfin hn) dX5_handOver_73
    · have hf := if_of_neg hf c6
      refine lv_aload_n hx hb dX5_handOver_47 rfl (lv_at hl 2 rfl) ?_
      refine lv_iload_n hx hb dX5_handOver_48 rfl (lv_at hl 4 rfl) ?_
      refine lv_iload_n hx hb dX5_handOver_49 rfl (lv_at hl 3 rfl) ?_
      refine lv_iload_n hx hb dX5_handOver_50 rfl (lv_at hl 5 rfl) ?_
      refine lv_iload hx hb dX5_handOver_51 (lv_at hl 1 rfl) ?_
      refine lv_iload hx hb dX5_handOver_53 (lv_at hl 0 rfl) ?_
      obtain ⟨q14, m15, n16, m17, n18, hcq14, hf, hem, hen⟩ := bt2_of hf
      refine kca_v (va_runV (As := [.int a2, .int a1, .int a3, .int x3, .int x4]) (rest := []) ⟨hx, hb, hml, hown, hts⟩ (mX5_trade l D dA ad σ _ x mi a2 a1 a3 x3 x4 q14 m15 n16 hcq14) (cwV 5 hts gX5_233 rfl rfl rfl (by decide +kernel) ⟨Nat.le_of_ble_eq_true rfl, Nat.le_of_ble_eq_true rfl⟩) (preVA_of hA hR hS hK hX hLX _) rfl rfl hl.1 rfl (lv_room (Nat.le_of_ble_eq_true rfl)) dX5_handOver_55 ⟨nle hm hem, nle hn hen⟩) hA hR hS (fun ad19 H locs hka hLX hR hS => ?_)
      have e20 := (hka 0 0 rfl (by decide)).1
      have hl : lv_has ls 6 [(5, .int x4), (4, .int x3), (0, .ref (ad19 0 0)), (1, .int a1), (2, .int a2), (3, .int a3)] := by rw [e20]; exact hl
      have hKA := KA_tr hKA hka (by decide)
      have hm := nadd hm hem
      have hn := nadd hn hen
      refine lv_goto (tgt := 73) hx hb dX5_handOver_58 (by decide) ?_
      cases hf
      exact reta_v hC hKA hLX hR hS (nfin hm) (nfin hn) dX5_handOver_73
  · have hf := if_of_neg hf (fun q => q c5)
    refine lv_aload_n hx hb dX5_handOver_29 rfl (lv_at hl 2 rfl) ?_
    refine lv_iload_n hx hb dX5_handOver_30 rfl (lv_at hl 3 rfl) ?_
    refine lv_iload_n hx hb dX5_handOver_31 rfl (lv_at hl 5 rfl) ?_
    refine lv_iload hx hb dX5_handOver_32 (lv_at hl 1 rfl) ?_
    refine lv_iload hx hb dX5_handOver_34 (lv_at hl 0 rfl) ?_
    obtain ⟨q21, m22, n23, m24, n25, hcq21, hf, hem, hen⟩ := bt2_of hf
    refine kca_v (va_runV (As := [.int a1, .int a3, .int x3, .int x4]) (rest := []) ⟨hx, hb, hml, hown, hts⟩ (mX5_drop l D dA ad σ _ x mi a1 a3 x3 x4 q21 m22 n23 hcq21) (cwV 4 hts gX5_310 rfl rfl rfl (by decide +kernel) ⟨Nat.le_of_ble_eq_true rfl, Nat.le_of_ble_eq_true rfl⟩) (preVA_of hA hR hS hK hX hLX _) rfl rfl hl.1 rfl (lv_room (Nat.le_of_ble_eq_true rfl)) dX5_handOver_36 ⟨nle hm hem, nle hn hen⟩) hA hR hS (fun ad26 H locs hka hLX hR hS => ?_)
    have e27 := (hka 0 0 rfl (by decide)).1
    have hl : lv_has ls 6 [(5, .int x4), (4, .int x3), (0, .ref (ad26 0 0)), (1, .int a1), (2, .int a2), (3, .int a3)] := by rw [e27]; exact hl
    have hKA := KA_tr hKA hka (by decide)
    have hm := nadd hm hem
    have hn := nadd hn hen
    refine lv_goto (tgt := 73) hx hb dX5_handOver_39 (by decide) ?_
    cases hf
    exact reta_v hC hKA hLX hR hS (nfin hm) (nfin hn) dX5_handOver_73
def fX5_fail_L14 : Nat → St → Int32 → Nat → Int32 → Option ((St) × Nat × Nat)
  | 0, _, _, _, _ => none
  | n + 1, σ, v3, v2, v1 => if 3 ≤ v3 then bd (fX5_sellCollateral σ v1) (fun q3 => gd (sameN q3 σ) (bd (fX5_netPositions q3 v2) (fun q5 => gd (sameN q5.2 q3) (if 0 ≤ (gL q5.2 0 v2 0) then some (q5.2, 0, 0) else bd (fX5_coverLoss q5.2 v2) (fun q8 => gd (sameN q8 q5.2) (some (q8, 0, 0))))))) else gd (vin v3 3) (if (gI σ 4 v2 v3.toNatClampNeg) = 0 then kst (v3 + 1) (fun x12 => fX5_fail_L14 n σ x12 v2 v1) else bd (fX5_memberWithMostFree σ) (fun q13 => gd (sameN q13.2 σ) (bt2 (fX5_handOver q13.2 v1 q13.1 v3) (fun q15 => kst (v3 + 1) (fun x23 => fX5_fail_L14 n q15 x23 v2 v1)))))
set_option maxHeartbeats 4000000 in
set_option maxRecDepth 100000 in
theorem wX5_fail_L14 {p : Program} {l : Launch} {e : Env} {s : State} {m : MethodId} {args : Array Value} {below : List Frame} {meth : Method} {c : Code} {D : va_G} {dA : Nat → ClassId} {A0 : Nat → Prop} {x mi mc ms : Nat} {ad0 : Nat → Nat → Nat} {σ0 : St} {σ' : St} (hC : CTX p s m args meth c cX5_fail 4 RX5 none) (hK : KS D dA s) (hA : ∀ q, s.heap.size ≤ q → A0 q) (hX : EXT x mi A0 s s.heap) : ∀ (n : Nat) (H : Heap) (locs : List Loc) (ls : Array Slot) (ad : Nat → Nat → Nat) (c0 s0 mr sr : Nat) (σ : St) (v3 : Int32) (v2 : Nat) (v1 : Int32) (hv2 : cvC σ 2 v2), KA [15] ad0 ad σ0 σ → LX ad σ x → mc = c0 + mr → ms = s0 + sr → HC D dA A0 ad σ H → va_S A0 s.heap H locs → lv_has ls 4 [(3, .int v3), (2, .ref (ad 2 v2)), (0, .ref (ad 0 0)), (1, .int v1)] → fX5_fail_L14 n σ v3 v2 v1 = some (σ', mr, sr) → W p l e ({ frames := 9, cells := mc, slots := ms, locals := 227 } : Room) s m args below meth c H locs c0 s0 (MQ below (va_Qv (fun (ad' : Nat → Nat → Nat) => KA [15] ad0 ad' σ0 σ' ∧ LX ad' σ' x) (fun ad' t => HC D dA A0 ad' σ' t.heap) A0) args s mc ms A0) (F0 m 14 ls []) := by
  obtain ⟨hx, hb, hml, hown, hts, hr, hlk⟩ := id hC
  intro n
  induction n with
  | zero =>
    intro H locs ls ad c0 s0 mr sr σ v3 v2 v1 hv2 hKA hLX hm hn hR hS hl hf
    rw [fX5_fail_L14.eq_1] at hf
    cases hf
  | succ n ih =>
    intro H locs ls ad c0 s0 mr sr σ v3 v2 v1 hv2 hKA hLX hm hn hR hS hl hf
    rw [fX5_fail_L14.eq_2] at hf
    refine lv_iload_n hx hb dX5_fail_14 rfl (lv_at hl 0 rfl) ?_
    refine lv_iconst (v := 3) hx hb dX5_fail_15 (by decide) ?_
    refine lv_icmp_ge (tgt := 44) hx hb dX5_fail_16 (by decide) (fun c2 => ?_) (fun c2 => ?_)
    · have hf := if_of_pos hf c2
      refine lv_aload_n hx hb dX5_fail_44 rfl (lv_at hl 2 rfl) ?_
      refine lv_iload_n hx hb dX5_fail_45 rfl (lv_at hl 3 rfl) ?_
      obtain ⟨q3, hcq3, hf⟩ := bd_of hf
      obtain ⟨g4, hf⟩ := gd_of hf
      refine kc_v (va_runV (As := [.int v1]) (rest := []) ⟨hx, hb, hml, hown, hts⟩ (mX5_sellCollateral l D dA ad σ _ v1 q3 hcq3) (cwV 1 hts gX5_303 rfl rfl rfl (by decide +kernel) ⟨Nat.le_of_ble_eq_true rfl, Nat.le_of_ble_eq_true rfl⟩) (preV_of hR hK (f := 0) (i := 0) rfl rfl rfl _) rfl rfl hl.1 rfl (lv_room (Nat.le_of_ble_eq_true rfl)) dX5_fail_46 ⟨nle0 hm, nle0 hn⟩) hA hR hS (fun H locs hR hS => ?_)
      have hKA := KA_same hKA g4
      have hLX := LX_same hLX g4
      refine lv_aload_n hx hb dX5_fail_49 rfl (lv_at hl 2 rfl) ?_
      refine lv_aload_n hx hb dX5_fail_50 rfl (lv_at hl 1 rfl) ?_
      obtain ⟨q5, hcq5, hf⟩ := bd_of hf
      obtain ⟨g6, hf⟩ := gd_of hf
      refine kc_l (va_runV (As := [.ref (ad 2 v2)]) (rest := []) ⟨hx, hb, hml, hown, hts⟩ (mX5_netPositions l D dA ad q3 _ v2 q5.1 q5.2 hcq5 hv2) (cwV 1 hts gX5_164 rfl rfl rfl (by decide +kernel) ⟨Nat.le_of_ble_eq_true rfl, Nat.le_of_ble_eq_true rfl⟩) (preV_of hR hK (f := 0) (i := 0) rfl rfl rfl _) rfl rfl hl.1 rfl (lv_room (Nat.le_of_ble_eq_true rfl)) dX5_fail_51 ⟨nle0 hm, nle0 hn⟩) hA hR hS (fun H locs hR hS => ?_)
      have hKA := KA_same hKA g6
      have hLX := LX_same hLX g6
      refine lv_pop2_2 hx hb dX5_fail_54 rfl ?_
      refine lv_aload_n hx hb dX5_fail_55 rfl (lv_at hl 1 rfl) ?_
      refine va_getN (D := D) (ci := 1) (C := RX0) (T := TX0) (N := 8) hx hb hts iuX0 hown hK.1 (WW_one hR (f := 2) (i := v2) hv2) 0 rfl rfl 0 (by decide) (nw_f hK.2 q_102) (fun _ h9 => h9) rfl dX5_fail_56 ?_
      refine lv_lconst (v := 0) hx hb dX5_fail_59 (by decide) ?_
      refine W.lcmp hx hb dX5_fail_60 ?_
      refine lv_if_ge (tgt := 69) hx hb dX5_fail_61 (by decide) (fun c70 => ?_) (fun c70 => ?_)
      · have c7 : 0 ≤ (gL q5.2 0 v2 0) := (lg_cmp_ge _ _).mp c70
        have hf := if_of_pos hf c7
        cases hf
        exact reta_v hC hKA hLX hR hS (nfin hm) (nfin hn) dX5_fail_69
      · have c7 : ¬ (0 ≤ (gL q5.2 0 v2 0)) := fun q => c70 ((lg_cmp_ge _ _).mpr q)
        have hf := if_of_neg hf c7
        refine lv_aload_n hx hb dX5_fail_64 rfl (lv_at hl 2 rfl) ?_
        refine lv_aload_n hx hb dX5_fail_65 rfl (lv_at hl 1 rfl) ?_
        obtain ⟨q8, hcq8, hf⟩ := bd_of hf
        obtain ⟨g9, hf⟩ := gd_of hf
        refine kc_v (va_runV (As := [.ref (ad 2 v2)]) (rest := []) ⟨hx, hb, hml, hown, hts⟩ (mX5_coverLoss l D dA ad q5.2 _ v2 q8 hcq8 hv2) (cwV 1 hts gX5_306 rfl rfl rfl (by decide +kernel) ⟨Nat.le_of_ble_eq_true rfl, Nat.le_of_ble_eq_true rfl⟩) (preV_of hR hK (f := 0) (i := 0) rfl rfl rfl _) rfl rfl hl.1 rfl (lv_room (Nat.le_of_ble_eq_true rfl)) dX5_fail_66 ⟨nle0 hm, nle0 hn⟩) hA hR hS (fun H locs hR hS => ?_)
        have hKA := KA_same hKA g9
        have hLX := LX_same hLX g9
        cases hf
        exact reta_v hC hKA hLX hR hS (nfin hm) (nfin hn) dX5_fail_69
    · have hf := if_of_neg hf c2
      refine lv_aload_n hx hb dX5_fail_19 rfl (lv_at hl 1 rfl) ?_
      refine va_getN (D := D) (ci := 1) (C := RX0) (T := TX0) (N := 8) hx hb hts iuX0 hown hK.1 (WW_one hR (f := 2) (i := v2) hv2) 0 rfl rfl 6 (by decide) (nw_f hK.2 q_111) (fun _ h9 => h9) rfl dX5_fail_20 ?_
      refine lv_iload_n hx hb dX5_fail_23 rfl (lv_at hl 0 rfl) ?_
      obtain ⟨g10, hf⟩ := gd_of hf
      refine va_iald hx hb hK.1 (WW_one hR (f := 4) (i := v2) hv2) 0 0 rfl rfl g10 dX5_fail_24 ?_
      refine lv_if_eq (tgt := 38) hx hb dX5_fail_25 (by decide) (fun c11 => ?_) (fun c11 => ?_)
      · have hf := if_of_pos hf c11
        obtain ⟨x12, hx12⟩ : ∃ y : Int32, y = v3 + 1 := ⟨_, rfl⟩
        have hf := kst_eq hx12 hf
        refine lv_iinc (v := x12) (lv' := [(3, .int x12), (2, .ref (ad 2 v2)), (0, .ref (ad 0 0)), (1, .int v1)]) hx hb dX5_fail_38 hl (k := 0) rfl (by rw [hx12]; rfl) (by decide) rfl (fun ls hl => ?_)
        refine lv_goto (tgt := 14) hx hb dX5_fail_41 (by decide) ?_
        exact ih _ _ _ ad _ _ _ _ σ x12 v2 v1 hv2 hKA hLX hm hn hR hS (lv_sub hl [0, 1, 2, 3] rfl) hf
      · have hf := if_of_neg hf c11
        refine lv_aload_n hx hb dX5_fail_28 rfl (lv_at hl 2 rfl) ?_
        refine lv_iload_n hx hb dX5_fail_29 rfl (lv_at hl 3 rfl) ?_
        refine lv_aload_n hx hb dX5_fail_30 rfl (lv_at hl 2 rfl) ?_
        obtain ⟨q13, hcq13, hf⟩ := bd_of hf
        obtain ⟨g14, hf⟩ := gd_of hf
        refine kc_i (va_runV (As := []) (rest := [.int v1, .ref (ad 0 0)]) ⟨hx, hb, hml, hown, hts⟩ (mX5_memberWithMostFree l D dA ad σ _ q13.1 q13.2 hcq13) (cwV 0 hts gX5_297 rfl rfl rfl (by decide +kernel) ⟨Nat.le_of_ble_eq_true rfl, Nat.le_of_ble_eq_true rfl⟩) (preV_of hR hK (f := 0) (i := 0) rfl rfl rfl _) rfl rfl hl.1 rfl (lv_room (Nat.le_of_ble_eq_true rfl)) dX5_fail_31 ⟨nle0 hm, nle0 hn⟩) hA hR hS (fun H locs hR hS => ?_)
        have hKA := KA_same hKA g14
        have hLX := LX_same hLX g14
        refine lv_iload_n hx hb dX5_fail_34 rfl (lv_at hl 0 rfl) ?_
        obtain ⟨q15, m16, n17, m18, n19, hcq15, hf, hem, hen⟩ := bt2_of hf
        refine kca_v (va_runV (As := [.int v1, .int q13.1, .int v3]) (rest := []) ⟨hx, hb, hml, hown, hts⟩ (mX5_handOver l D dA ad q13.2 _ x mi v1 q13.1 v3 q15 m16 n17 hcq15) (cwV 3 hts gX5_300 rfl rfl rfl (by decide +kernel) ⟨Nat.le_of_ble_eq_true rfl, Nat.le_of_ble_eq_true rfl⟩) (preVA_of hA hR hS hK hX hLX _) rfl rfl hl.1 rfl (lv_room (Nat.le_of_ble_eq_true rfl)) dX5_fail_35 ⟨nle hm hem, nle hn hen⟩) hA hR hS (fun ad20 H locs hka hLX hR hS => ?_)
        have e21 := (hka 2 v2 hv2 (by decide)).1
        have e22 := (hka 0 0 rfl (by decide)).1
        have hl : lv_has ls 4 [(3, .int v3), (2, .ref (ad20 2 v2)), (0, .ref (ad20 0 0)), (1, .int v1)] := by rw [e21, e22]; exact hl
        have hKA := KA_tr hKA hka (by decide)
        have hm := nadd hm hem
        have hn := nadd hn hen
        obtain ⟨x23, hx23⟩ : ∃ y : Int32, y = v3 + 1 := ⟨_, rfl⟩
        have hf := kst_eq hx23 hf
        refine lv_iinc (v := x23) (lv' := [(3, .int x23), (2, .ref (ad20 2 v2)), (0, .ref (ad20 0 0)), (1, .int v1)]) hx hb dX5_fail_38 hl (k := 0) rfl (by rw [hx23]; rfl) (by decide) rfl (fun ls hl => ?_)
        refine lv_goto (tgt := 14) hx hb dX5_fail_41 (by decide) ?_
        exact ih _ _ _ ad20 _ _ _ _ q15 x23 v2 v1 hv2 hKA hLX hm hn hR hS (lv_sub hl [0, 1, 2, 3] rfl) hf
def fX5_fail (σ : St) (a1 : Int32) : Option ((St) × Nat × Nat) := gd (vin a1 5) (fX5_fail_L14 1000 (pI σ 0 a1.toNatClampNeg 0 1) 0 a1.toNatClampNeg a1)
set_option maxHeartbeats 4000000 in
set_option maxRecDepth 100000 in
theorem mX5_fail (l : Launch) (D : va_G) (dA : Nat → ClassId) (ad : Nat → Nat → Nat) (σ : St) (sz x mi : Nat) (a1 : Int32) (σ' : St) (mc ms : Nat) (hf : fX5_fail σ a1 = some (σ', mc, ms)) : Met l yX5_fail (WSy yX5_fail cX5_fail 4 none) ({ frames := 9, cells := mc, slots := ms, locals := 227 } : Room) (va_Pc [.ref (ad 0 0), .int a1] (PreA D dA ad σ x mi sz)) (va_Qv (fun (ad' : Nat → Nat → Nat) => KA [15] ad ad' σ σ' ∧ LX ad' σ' x) (fun ad' t => HC D dA (WA ad (cvC σ) sz) ad' σ' t.heap) (WA ad (cvC σ) sz)) mc ms (WA ad (cvC σ) sz) := by
  refine met_of (by decide) (Nat.le_of_ble_eq_true rfl) ?_
  intro p e s m below meth c ls hC hB hl
  obtain ⟨rfl, hR, hK, hX, hLX⟩ := hB
  have hA : ∀ q : Nat, s.heap.size ≤ q → WA ad (cvC σ) s.heap.size q := fun q h => Or.inr h
  have hR := WW_fit (B := WA ad (cvC σ) s.heap.size) hR (fun f i h => WA_in h)
  have hS : va_S (WA ad (cvC σ) s.heap.size) s.heap s.heap [] := va_S.rf
  generalize WA ad (cvC σ) s.heap.size = A0 at hA hR hS hX ⊢
  have hC : CTX p s m _ meth c cX5_fail 4 RX5 none := hC
  obtain ⟨hx, hb, hml, hown, hts, hr, hlk⟩ := id hC
  have hl : lv_has ls 4 [(0, .ref (ad 0 0)), (1, .int a1)] := hl
  have hKA : KA [15] ad ad σ σ := KA_rf _ _ _
  have hm : mc = 0 + mc := (Nat.zero_add mc).symm
  have hn : ms = 0 + ms := (Nat.zero_add ms).symm
  unfold fX5_fail at hf
  refine lv_aload_n hx hb dX5_fail_0 rfl (lv_at hl 0 rfl) ?_
  refine va_get (D := D) (ci := 6) (C := RX5) (T := TX5) (N := 8) hx hb hts iuX5 hown hK.1 (WW_one hR (f := 0) (i := 0) rfl) 0 rfl rfl 0 (by decide) (hts _ q_164) (fun _ h9 => h9) rfl dX5_fail_1 ?_
  refine lv_iload_n hx hb dX5_fail_4 rfl (lv_at hl 1 rfl) ?_
  obtain ⟨g1, hf⟩ := gd_of hf
  refine va_aldq (C := RX0) hx hb hK.1 (WW_one hR (f := 1) (i := 0) rfl) 0 3 rfl rfl g1 dX5_fail_5 ?_
  refine lv_astore_n (lv' := [(2, .ref (ad 2 a1.toNatClampNeg)), (0, .ref (ad 0 0)), (1, .int a1)]) hx hb dX5_fail_6 rfl hl (by decide) rfl (fun ls hl => ?_)
  refine lv_aload_n hx hb dX5_fail_7 rfl (lv_at hl 0 rfl) ?_
  refine lv_iconst (v := 1) hx hb dX5_fail_8 (by decide) ?_
  refine ww_putN (D := D) (ci := 1) (C := RX0) (T := TX0) (N := 8) (ty := .boolean) hx hb hts iuX0 tyX0 tyX0_ok nmX0 hown hK.1 hR hS (f := 2) (i := a1.toNatClampNeg) (vin_lt g1) rfl rfl 3 (by decide) (nw_f hK.2 q_105) (fun _ h9 => h9) rfl (by decide +kernel) (bz_nar (by decide : bz 1)) (bz_fit (by decide : bz 1)) (Nat.le_of_ble_eq_true rfl) dX5_fail_9 (fun H locs hR hS => ?_)
  have hR := HC_Account_failed a1.toNatClampNeg 1 hR
  have hKA := KA_same (b := pI σ 0 a1.toNatClampNeg 0 1) hKA ⟨rfl, rfl, rfl, rfl, rfl, rfl, rfl⟩
  have hLX := LX_same (b := pI σ 0 a1.toNatClampNeg 0 1) hLX ⟨rfl, rfl, rfl, rfl, rfl, rfl, rfl⟩
  refine lv_iconst (v := 0) hx hb dX5_fail_12 (by decide) ?_
  refine lv_istore_n (lv' := [(3, .int 0), (2, .ref (ad 2 a1.toNatClampNeg)), (0, .ref (ad 0 0)), (1, .int a1)]) hx hb dX5_fail_13 rfl hl (by decide) rfl (fun ls hl => ?_)
  exact wX5_fail_L14 hC hK hA hX 1000 _ _ _ ad _ _ _ _ (pI σ 0 a1.toNatClampNeg 0 1) 0 a1.toNatClampNeg a1 (vin_lt g1) hKA hLX hm hn hR hS (lv_sub hl [0, 1, 2, 3] rfl) hf
def fX5_productsByRisk_L17 {β : Type} (k : St → Int32 → Int32 → Int32 → Int32 → Option (β × Nat × Nat)) : Nat → St → Int32 → Int32 → Int32 → Int32 → Option (β × Nat × Nat)
  | 0, _, _, _, _, _ => none
  | n + 1, σ, v5, v4, v3, v1 => if 3 ≤ v5 then k σ v5 v4 v3 v1 else bd (fX5_goesAhead σ v1 v5 v3) (fun q7 => if q7 = 0 then kst (v4 + 0) (fun x9 => kst (v5 + 1) (fun x10 => fX5_productsByRisk_L17 k n σ x10 x9 v3 v1)) else kst (v4 + 1) (fun x11 => kst (v5 + 1) (fun x12 => fX5_productsByRisk_L17 k n σ x12 x11 v3 v1)))
set_option maxHeartbeats 4000000 in
set_option maxRecDepth 100000 in
theorem wX5_productsByRisk_L17 {p : Program} {l : Launch} {e : Env} {s : State} {m : MethodId} {args : Array Value} {below : List Frame} {meth : Method} {c : Code} {D : va_G} {dA : Nat → ClassId} {A0 : Nat → Prop} {x mi mc ms : Nat} {ad0 : Nat → Nat → Nat} {σ0 : St} {β : Type} {o : β} {Q : State → Prop} {k : St → Int32 → Int32 → Int32 → Int32 → Option (β × Nat × Nat)} (hC : CTX p s m args meth c cX5_productsByRisk 6 RX5 (some (.array .int))) (hK : KS D dA s) (hA : ∀ q, s.heap.size ≤ q → A0 q) (hX : EXT x mi A0 s s.heap) (hk : ∀ (H : Heap) (locs : List Loc) (ls : Array Slot) (ad : Nat → Nat → Nat) (c0 s0 mr sr : Nat) (σ : St) (v5 : Int32) (v4 : Int32) (v3 : Int32) (v1 : Int32) (hv2 : cvC σ 19 0), KA [19] ad0 ad σ0 σ → LX ad σ x → mc = c0 + mr → ms = s0 + sr → HC D dA A0 ad σ H → va_S A0 s.heap H locs → lv_has ls 6 [(5, .int v5), (4, .int v4), (3, .int v3), (2, .ref (ad 19 0)), (0, .ref (ad 0 0)), (1, .int v1)] → k σ v5 v4 v3 v1 = some (o, mr, sr) → W p l e ({ frames := 3, cells := mc, slots := ms, locals := 78 } : Room) s m args below meth c H locs c0 s0 Q (F0 m 50 ls [])) : ∀ (n : Nat) (H : Heap) (locs : List Loc) (ls : Array Slot) (ad : Nat → Nat → Nat) (c0 s0 mr sr : Nat) (σ : St) (v5 : Int32) (v4 : Int32) (v3 : Int32) (v1 : Int32) (hv2 : cvC σ 19 0), KA [19] ad0 ad σ0 σ → LX ad σ x → mc = c0 + mr → ms = s0 + sr → HC D dA A0 ad σ H → va_S A0 s.heap H locs → lv_has ls 6 [(5, .int v5), (4, .int v4), (3, .int v3), (2, .ref (ad 19 0)), (0, .ref (ad 0 0)), (1, .int v1)] → fX5_productsByRisk_L17 k n σ v5 v4 v3 v1 = some (o, mr, sr) → W p l e ({ frames := 3, cells := mc, slots := ms, locals := 78 } : Room) s m args below meth c H locs c0 s0 Q (F0 m 17 ls []) := by
  obtain ⟨hx, hb, hml, hown, hts, hr, hlk⟩ := id hC
  intro n
  induction n with
  | zero =>
    intro H locs ls ad c0 s0 mr sr σ v5 v4 v3 v1 hv2 hKA hLX hm hn hR hS hl hf
    rw [fX5_productsByRisk_L17.eq_1] at hf
    cases hf
  | succ n ih =>
    intro H locs ls ad c0 s0 mr sr σ v5 v4 v3 v1 hv2 hKA hLX hm hn hR hS hl hf
    rw [fX5_productsByRisk_L17.eq_2] at hf
    refine lv_iload hx hb dX5_productsByRisk_17 (lv_at hl 0 rfl) ?_
    refine lv_iconst (v := 3) hx hb dX5_productsByRisk_19 (by decide) ?_
    refine lv_icmp_ge (tgt := 50) hx hb dX5_productsByRisk_20 (by decide) (fun c6 => ?_) (fun c6 => ?_)
    · have hf := if_of_pos hf c6
      exact hk _ _ _ ad _ _ _ _ σ v5 v4 v3 v1 hv2 hKA hLX hm hn hR hS (lv_sub hl [0, 1, 2, 3, 4, 5] rfl) hf
    · have hf := if_of_neg hf c6
      refine lv_iload hx hb dX5_productsByRisk_23 (lv_at hl 1 rfl) ?_
      refine lv_aload_n hx hb dX5_productsByRisk_25 rfl (lv_at hl 4 rfl) ?_
      refine lv_iload_n hx hb dX5_productsByRisk_26 rfl (lv_at hl 5 rfl) ?_
      refine lv_iload hx hb dX5_productsByRisk_27 (lv_at hl 0 rfl) ?_
      refine lv_iload_n hx hb dX5_productsByRisk_29 rfl (lv_at hl 2 rfl) ?_
      obtain ⟨q7, hcq7, hf⟩ := bd_of hf
      refine kc_i (va_runV (As := [.int v1, .int v5, .int v3]) (rest := [.int v4]) ⟨hx, hb, hml, hown, hts⟩ (mX5_goesAhead l D dA ad σ _ v1 v5 v3 q7 hcq7) (cwV 3 hts gX5_287 rfl rfl rfl (by decide +kernel) ⟨Nat.le_of_ble_eq_true rfl, Nat.le_of_ble_eq_true rfl⟩) (preV_of hR hK (f := 0) (i := 0) rfl rfl rfl _) rfl rfl hl.1 rfl (lv_room (Nat.le_of_ble_eq_true rfl)) dX5_productsByRisk_30 ⟨nle0 hm, nle0 hn⟩) hA hR hS (fun H locs hR hS => ?_)
      refine lv_if_eq (tgt := 40) hx hb dX5_productsByRisk_33 (by decide) (fun c8 => ?_) (fun c8 => ?_)
      · have hf := if_of_pos hf c8
        refine lv_iconst (v := 0) hx hb dX5_productsByRisk_40 (by decide) ?_
        refine lv_iadd hx hb dX5_productsByRisk_41 ?_
        refine lv_topi (fun x9 hx9 => ?_)
        have hf := kst_eq hx9 hf
        refine lv_istore (lv' := [(4, .int x9), (5, .int v5), (3, .int v3), (2, .ref (ad 19 0)), (0, .ref (ad 0 0)), (1, .int v1)]) hx hb dX5_productsByRisk_42 hl (by decide) rfl (fun ls hl => ?_)
        obtain ⟨x10, hx10⟩ : ∃ y : Int32, y = v5 + 1 := ⟨_, rfl⟩
        have hf := kst_eq hx10 hf
        refine lv_iinc (v := x10) (lv' := [(5, .int x10), (4, .int x9), (3, .int v3), (2, .ref (ad 19 0)), (0, .ref (ad 0 0)), (1, .int v1)]) hx hb dX5_productsByRisk_44 hl (k := 1) rfl (by rw [hx10]; rfl) (by decide) rfl (fun ls hl => ?_)
        refine lv_goto (tgt := 17) hx hb dX5_productsByRisk_47 (by decide) ?_
        exact ih _ _ _ ad _ _ _ _ σ x10 x9 v3 v1 hv2 hKA hLX hm hn hR hS (lv_sub hl [0, 1, 2, 3, 4, 5] rfl) hf
      · have hf := if_of_neg hf c8
        refine lv_iconst (v := 1) hx hb dX5_productsByRisk_36 (by decide) ?_
        refine lv_goto (tgt := 41) hx hb dX5_productsByRisk_37 (by decide) ?_
        refine lv_iadd hx hb dX5_productsByRisk_41 ?_
        refine lv_topi (fun x11 hx11 => ?_)
        have hf := kst_eq hx11 hf
        refine lv_istore (lv' := [(4, .int x11), (5, .int v5), (3, .int v3), (2, .ref (ad 19 0)), (0, .ref (ad 0 0)), (1, .int v1)]) hx hb dX5_productsByRisk_42 hl (by decide) rfl (fun ls hl => ?_)
        obtain ⟨x12, hx12⟩ : ∃ y : Int32, y = v5 + 1 := ⟨_, rfl⟩
        have hf := kst_eq hx12 hf
        refine lv_iinc (v := x12) (lv' := [(5, .int x12), (4, .int x11), (3, .int v3), (2, .ref (ad 19 0)), (0, .ref (ad 0 0)), (1, .int v1)]) hx hb dX5_productsByRisk_44 hl (k := 1) rfl (by rw [hx12]; rfl) (by decide) rfl (fun ls hl => ?_)
        refine lv_goto (tgt := 17) hx hb dX5_productsByRisk_47 (by decide) ?_
        exact ih _ _ _ ad _ _ _ _ σ x12 x11 v3 v1 hv2 hKA hLX hm hn hR hS (lv_sub hl [0, 1, 2, 3, 4, 5] rfl) hf
def fX5_productsByRisk_L6 : Nat → St → Int32 → Int32 → Option ((St) × Nat × Nat)
  | 0, _, _, _ => none
  | n + 1, σ, v3, v1 => if 3 ≤ v3 then some (σ, 0, 0) else fX5_productsByRisk_L17 (fun s13 y15 y16 y17 y19 => if 3 ≤ y16 then kst (y17 + 1) (fun x21 => fX5_productsByRisk_L6 n s13 x21 y19) else gd (vin y16 3) (kst (y17 + 1) (fun x23 => fX5_productsByRisk_L6 n (pI s13 19 0 y16.toNatClampNeg y17) x23 y19))) 1000 σ 0 0 v3 v1
set_option maxHeartbeats 4000000 in
set_option maxRecDepth 100000 in
theorem wX5_productsByRisk_L6 {p : Program} {l : Launch} {e : Env} {s : State} {m : MethodId} {args : Array Value} {below : List Frame} {meth : Method} {c : Code} {D : va_G} {dA : Nat → ClassId} {A0 : Nat → Prop} {x mi mc ms : Nat} {ad0 : Nat → Nat → Nat} {σ0 : St} {σ' : St} (hC : CTX p s m args meth c cX5_productsByRisk 6 RX5 (some (.array .int))) (hK : KS D dA s) (hA : ∀ q, s.heap.size ≤ q → A0 q) (hX : EXT x mi A0 s s.heap) : ∀ (n : Nat) (H : Heap) (locs : List Loc) (ls : Array Slot) (ad : Nat → Nat → Nat) (c0 s0 mr sr : Nat) (σ : St) (v3 : Int32) (v1 : Int32) (hv2 : cvC σ 19 0), KA [19] ad0 ad σ0 σ → LX ad σ x → mc = c0 + mr → ms = s0 + sr → HC D dA A0 ad σ H → va_S A0 s.heap H locs → lv_has ls 6 [(3, .int v3), (2, .ref (ad 19 0)), (0, .ref (ad 0 0)), (1, .int v1)] → fX5_productsByRisk_L6 n σ v3 v1 = some (σ', mr, sr) → W p l e ({ frames := 3, cells := mc, slots := ms, locals := 78 } : Room) s m args below meth c H locs c0 s0 (MQ below (va_Qr (fun (ad' : Nat → Nat → Nat) => KA [19] ad0 ad' σ0 σ' ∧ LX ad' σ' x) (fun ad' q t => q = ad' 19 0 ∧ HC D dA A0 ad' σ' t.heap) A0) args s mc ms A0) (F0 m 6 ls []) := by
  obtain ⟨hx, hb, hml, hown, hts, hr, hlk⟩ := id hC
  intro n
  induction n with
  | zero =>
    intro H locs ls ad c0 s0 mr sr σ v3 v1 hv2 hKA hLX hm hn hR hS hl hf
    rw [fX5_productsByRisk_L6.eq_1] at hf
    cases hf
  | succ n ih =>
    intro H locs ls ad c0 s0 mr sr σ v3 v1 hv2 hKA hLX hm hn hR hS hl hf
    rw [fX5_productsByRisk_L6.eq_2] at hf
    refine lv_iload_n hx hb dX5_productsByRisk_6 rfl (lv_at hl 0 rfl) ?_
    refine lv_iconst (v := 3) hx hb dX5_productsByRisk_7 (by decide) ?_
    refine lv_icmp_ge (tgt := 67) hx hb dX5_productsByRisk_8 (by decide) (fun c5 => ?_) (fun c5 => ?_)
    · have hf := if_of_pos hf c5
      refine lv_aload_n hx hb dX5_productsByRisk_67 rfl (lv_at hl 1 rfl) ?_
      cases hf
      exact reta_r hC hKA hLX hR hS (nfin hm) (nfin hn) dX5_productsByRisk_68
    · have hf := if_of_neg hf c5
      refine lv_iconst (v := 0) hx hb dX5_productsByRisk_11 (by decide) ?_
      refine lv_istore (lv' := [(4, .int 0), (3, .int v3), (2, .ref (ad 19 0)), (0, .ref (ad 0 0)), (1, .int v1)]) hx hb dX5_productsByRisk_12 hl (by decide) rfl (fun ls hl => ?_)
      refine lv_iconst (v := 0) hx hb dX5_productsByRisk_14 (by decide) ?_
      refine lv_istore (lv' := [(5, .int 0), (4, .int 0), (3, .int v3), (2, .ref (ad 19 0)), (0, .ref (ad 0 0)), (1, .int v1)]) hx hb dX5_productsByRisk_15 hl (by decide) rfl (fun ls hl => ?_)
      refine wX5_productsByRisk_L17 hC hK hA hX (fun H locs ls ad14 cc0 ss0 mm0 nn0 s13 y15 y16 y17 y19 hy18 hKA hLX hm hn hR hS hl hf => ?_) 1000 _ _ _ ad _ _ _ _ σ 0 0 v3 v1 hv2 hKA hLX hm hn hR hS (lv_sub hl [0, 1, 2, 3, 4, 5] rfl) hf
      refine lv_iload hx hb dX5_productsByRisk_50 (lv_at hl 1 rfl) ?_
      refine lv_iconst (v := 3) hx hb dX5_productsByRisk_52 (by decide) ?_
      refine lv_icmp_ge (tgt := 61) hx hb dX5_productsByRisk_53 (by decide) (fun c20 => ?_) (fun c20 => ?_)
      · have hf := if_of_pos hf c20
        obtain ⟨x21, hx21⟩ : ∃ y : Int32, y = y17 + 1 := ⟨_, rfl⟩
        have hf := kst_eq hx21 hf
        refine lv_iinc (v := x21) (lv' := [(3, .int x21), (5, .int y15), (4, .int y16), (2, .ref (ad14 19 0)), (0, .ref (ad14 0 0)), (1, .int y19)]) hx hb dX5_productsByRisk_61 hl (k := 2) rfl (by rw [hx21]; rfl) (by decide) rfl (fun ls hl => ?_)
        refine lv_goto (tgt := 6) hx hb dX5_productsByRisk_64 (by decide) ?_
        exact ih _ _ _ ad14 _ _ _ _ s13 x21 y19 hy18 hKA hLX hm hn hR hS (lv_sub hl [0, 3, 4, 5] rfl) hf
      · have hf := if_of_neg hf c20
        refine lv_aload_n hx hb dX5_productsByRisk_56 rfl (lv_at hl 3 rfl) ?_
        refine lv_iload hx hb dX5_productsByRisk_57 (lv_at hl 1 rfl) ?_
        refine lv_iload_n hx hb dX5_productsByRisk_59 rfl (lv_at hl 2 rfl) ?_
        obtain ⟨g22, hf⟩ := gd_of hf
        refine ww_iast hx hb hK.1 hR hS 0 (f := 19) (j := 0) hy18 rfl rfl g22 dX5_productsByRisk_60 (fun H locs hR hS => ?_)
        have hR := HC_row19 0 (y16.toNatClampNeg) y17 hR
        have hKA := KA_same (b := pI s13 19 0 y16.toNatClampNeg y17) hKA ⟨rfl, rfl, rfl, rfl, rfl, rfl, rfl⟩
        have hLX := LX_same (b := pI s13 19 0 y16.toNatClampNeg y17) hLX ⟨rfl, rfl, rfl, rfl, rfl, rfl, rfl⟩
        obtain ⟨x23, hx23⟩ : ∃ y : Int32, y = y17 + 1 := ⟨_, rfl⟩
        have hf := kst_eq hx23 hf
        refine lv_iinc (v := x23) (lv' := [(3, .int x23), (5, .int y15), (4, .int y16), (2, .ref (ad14 19 0)), (0, .ref (ad14 0 0)), (1, .int y19)]) hx hb dX5_productsByRisk_61 hl (k := 2) rfl (by rw [hx23]; rfl) (by decide) rfl (fun ls hl => ?_)
        refine lv_goto (tgt := 6) hx hb dX5_productsByRisk_64 (by decide) ?_
        exact ih _ _ _ ad14 _ _ _ _ (pI s13 19 0 y16.toNatClampNeg y17) x23 y19 hy18 hKA hLX hm hn hR hS (lv_sub hl [0, 3, 4, 5] rfl) hf
def fX5_productsByRisk (σ : St) (a1 : Int32) : Option ((St) × Nat × Nat) := tk 1 3 (fX5_productsByRisk_L6 1000 (newQ σ) 0 a1)
set_option maxHeartbeats 4000000 in
set_option maxRecDepth 100000 in
theorem mX5_productsByRisk (l : Launch) (D : va_G) (dA : Nat → ClassId) (ad : Nat → Nat → Nat) (σ : St) (sz x mi : Nat) (a1 : Int32) (σ' : St) (mc ms : Nat) (hf : fX5_productsByRisk σ a1 = some (σ', mc, ms)) : Met l yX5_productsByRisk (WSy yX5_productsByRisk cX5_productsByRisk 6 (some (.array .int))) ({ frames := 3, cells := mc, slots := ms, locals := 78 } : Room) (va_Pc [.ref (ad 0 0), .int a1] (PreA D dA ad σ x mi sz)) (va_Qr (fun (ad' : Nat → Nat → Nat) => KA [19] ad ad' σ σ' ∧ LX ad' σ' x) (fun ad' q t => q = ad' 19 0 ∧ HC D dA (WA ad (cvC σ) sz) ad' σ' t.heap) (WA ad (cvC σ) sz)) mc ms (WA ad (cvC σ) sz) := by
  refine met_of (by decide) (Nat.le_of_ble_eq_true rfl) ?_
  intro p e s m below meth c ls hC hB hl
  obtain ⟨rfl, hR, hK, hX, hLX⟩ := hB
  have hA : ∀ q : Nat, s.heap.size ≤ q → WA ad (cvC σ) s.heap.size q := fun q h => Or.inr h
  have hR := WW_fit (B := WA ad (cvC σ) s.heap.size) hR (fun f i h => WA_in h)
  have hS : va_S (WA ad (cvC σ) s.heap.size) s.heap s.heap [] := va_S.rf
  generalize WA ad (cvC σ) s.heap.size = A0 at hA hR hS hX ⊢
  have hC : CTX p s m _ meth c cX5_productsByRisk 6 RX5 (some (.array .int)) := hC
  obtain ⟨hx, hb, hml, hown, hts, hr, hlk⟩ := id hC
  have hl : lv_has ls 6 [(0, .ref (ad 0 0)), (1, .int a1)] := hl
  have hKA : KA [19] ad ad σ σ := KA_rf _ _ _
  have hm : mc = 0 + mc := (Nat.zero_add mc).symm
  have hn : ms = 0 + ms := (Nat.zero_add ms).symm
  unfold fX5_productsByRisk at hf
  refine lv_iconst (v := 3) hx hb dX5_productsByRisk_0 (by decide) ?_
  obtain ⟨m1, n2, hf, hem, hen⟩ := tk_of hf
  refine new_19 hC hK hA hR hS hLX (nle hm hem) (nle hn hen) dX5_productsByRisk_1 (fun ad3 H hka hLX hR hS => ?_)
  have e4 := (hka 0 0 rfl (by decide)).1
  have hl : lv_has ls 6 [(0, .ref (ad3 0 0)), (1, .int a1)] := by rw [e4]; exact hl
  have hKA := KA_tr hKA hka (by decide)
  have hm := nadd hm hem
  have hn := nadd hn hen
  refine lv_astore_n (lv' := [(2, .ref (ad3 19 0)), (0, .ref (ad3 0 0)), (1, .int a1)]) hx hb dX5_productsByRisk_3 rfl hl (by decide) rfl (fun ls hl => ?_)
  refine lv_iconst (v := 0) hx hb dX5_productsByRisk_4 (by decide) ?_
  refine lv_istore_n (lv' := [(3, .int 0), (2, .ref (ad3 19 0)), (0, .ref (ad3 0 0)), (1, .int a1)]) hx hb dX5_productsByRisk_5 rfl hl (by decide) rfl (fun ls hl => ?_)
  exact wX5_productsByRisk_L6 hC hK hA hX 1000 _ _ _ ad3 _ _ _ _ (newQ σ) 0 a1 (⟨rfl, rfl⟩ : cvC (newQ σ) 19 0) hKA hLX hm hn hR hS (lv_sub hl [0, 1, 2, 3] rfl) hf
def fX5_closeOut_L23 : Nat → St → Int32 → Int32 → Option ((St) × Nat × Nat)
  | 0, _, _, _ => none
  | n + 1, σ, v3, v1 => if 3 ≤ v3 then some (σ, 0, 0) else bd (fX5_freeOf σ v1) (fun q13 => gd (sameN q13.2 σ) (if 0 ≤ q13.1 then some (q13.2, 0, 0) else gd (vin v3 3) (bt2 (fX5_closePosition q13.2 v1 (gI q13.2 19 0 v3.toNatClampNeg)) (fun q18 => kst (v3 + 1) (fun x27 => fX5_closeOut_L23 n q18 x27 v1)))))
set_option maxHeartbeats 4000000 in
set_option maxRecDepth 100000 in
theorem wX5_closeOut_L23 {p : Program} {l : Launch} {e : Env} {s : State} {m : MethodId} {args : Array Value} {below : List Frame} {meth : Method} {c : Code} {D : va_G} {dA : Nat → ClassId} {A0 : Nat → Prop} {x mi mc ms : Nat} {ad0 : Nat → Nat → Nat} {σ0 : St} {σ' : St} (hC : CTX p s m args meth c cX5_closeOut 4 RX5 none) (hK : KS D dA s) (hA : ∀ q, s.heap.size ≤ q → A0 q) (hX : EXT x mi A0 s s.heap) : ∀ (n : Nat) (H : Heap) (locs : List Loc) (ls : Array Slot) (ad : Nat → Nat → Nat) (c0 s0 mr sr : Nat) (σ : St) (v3 : Int32) (v1 : Int32) (hv2 : cvC σ 19 0), KA [15, 19] ad0 ad σ0 σ → LX ad σ x → mc = c0 + mr → ms = s0 + sr → HC D dA A0 ad σ H → va_S A0 s.heap H locs → lv_has ls 4 [(3, .int v3), (2, .ref (ad 19 0)), (0, .ref (ad 0 0)), (1, .int v1)] → fX5_closeOut_L23 n σ v3 v1 = some (σ', mr, sr) → W p l e ({ frames := 10, cells := mc, slots := ms, locals := 250 } : Room) s m args below meth c H locs c0 s0 (MQ below (va_Qv (fun (ad' : Nat → Nat → Nat) => KA [15, 19] ad0 ad' σ0 σ' ∧ LX ad' σ' x) (fun ad' t => HC D dA A0 ad' σ' t.heap) A0) args s mc ms A0) (F0 m 23 ls []) := by
  obtain ⟨hx, hb, hml, hown, hts, hr, hlk⟩ := id hC
  intro n
  induction n with
  | zero =>
    intro H locs ls ad c0 s0 mr sr σ v3 v1 hv2 hKA hLX hm hn hR hS hl hf
    rw [fX5_closeOut_L23.eq_1] at hf
    cases hf
  | succ n ih =>
    intro H locs ls ad c0 s0 mr sr σ v3 v1 hv2 hKA hLX hm hn hR hS hl hf
    rw [fX5_closeOut_L23.eq_2] at hf
    refine lv_iload_n hx hb dX5_closeOut_23 rfl (lv_at hl 0 rfl) ?_
    refine lv_aload_n hx hb dX5_closeOut_24 rfl (lv_at hl 1 rfl) ?_
    refine va_alen (v := 3) (ty := .int) hx hb hK.1 (WW_one hR (f := 19) (i := 0) hv2) 0 0 rfl rfl (show Int32.ofNat 3 = (3 : Int32) by decide) dX5_closeOut_25 ?_
    refine lv_icmp_ge (tgt := 53) hx hb dX5_closeOut_26 (by decide) (fun c12 => ?_) (fun c12 => ?_)
    · have hf := if_of_pos hf c12
      cases hf
      exact reta_v hC hKA hLX hR hS (nfin hm) (nfin hn) dX5_closeOut_53
    · have hf := if_of_neg hf c12
      refine lv_aload_n hx hb dX5_closeOut_29 rfl (lv_at hl 2 rfl) ?_
      refine lv_iload_n hx hb dX5_closeOut_30 rfl (lv_at hl 3 rfl) ?_
      obtain ⟨q13, hcq13, hf⟩ := bd_of hf
      obtain ⟨g14, hf⟩ := gd_of hf
      refine kc_l (va_runV (As := [.int v1]) (rest := []) ⟨hx, hb, hml, hown, hts⟩ (mX5_freeOf l D dA ad σ _ v1 q13.1 q13.2 hcq13) (cwV 1 hts gX5_86 rfl rfl rfl (by decide +kernel) ⟨Nat.le_of_ble_eq_true rfl, Nat.le_of_ble_eq_true rfl⟩) (preV_of hR hK (f := 0) (i := 0) rfl rfl rfl _) rfl rfl hl.1 rfl (lv_room (Nat.le_of_ble_eq_true rfl)) dX5_closeOut_31 ⟨nle0 hm, nle0 hn⟩) hA hR hS (fun H locs hR hS => ?_)
      have hKA := KA_same hKA g14
      have hLX := LX_same hLX g14
      have w15 : cvC q13.2 19 0 := by rw [cvC_same g14]; exact hv2
      refine lv_lconst (v := 0) hx hb dX5_closeOut_34 (by decide) ?_
      refine W.lcmp hx hb dX5_closeOut_35 ?_
      refine lv_if_ge (tgt := 53) hx hb dX5_closeOut_36 (by decide) (fun c160 => ?_) (fun c160 => ?_)
      · have c16 : 0 ≤ q13.1 := (lg_cmp_ge _ _).mp c160
        have hf := if_of_pos hf c16
        cases hf
        exact reta_v hC hKA hLX hR hS (nfin hm) (nfin hn) dX5_closeOut_53
      · have c16 : ¬ (0 ≤ q13.1) := fun q => c160 ((lg_cmp_ge _ _).mpr q)
        have hf := if_of_neg hf c16
        refine lv_aload_n hx hb dX5_closeOut_39 rfl (lv_at hl 2 rfl) ?_
        refine lv_iload_n hx hb dX5_closeOut_40 rfl (lv_at hl 3 rfl) ?_
        refine lv_aload_n hx hb dX5_closeOut_41 rfl (lv_at hl 1 rfl) ?_
        refine lv_iload_n hx hb dX5_closeOut_42 rfl (lv_at hl 0 rfl) ?_
        obtain ⟨g17, hf⟩ := gd_of hf
        refine va_iald hx hb hK.1 (WW_one hR (f := 19) (i := 0) w15) 0 0 rfl rfl g17 dX5_closeOut_43 ?_
        obtain ⟨q18, m19, n20, m21, n22, hcq18, hf, hem, hen⟩ := bt2_of hf
        refine kca_v (va_runV (As := [.int v1, .int (gI q13.2 19 0 v3.toNatClampNeg)]) (rest := []) ⟨hx, hb, hml, hown, hts⟩ (mX5_closePosition l D dA ad q13.2 _ x mi v1 (gI q13.2 19 0 v3.toNatClampNeg) q18 m19 n20 hcq18) (cwV 2 hts gX5_283 rfl rfl rfl (by decide +kernel) ⟨Nat.le_of_ble_eq_true rfl, Nat.le_of_ble_eq_true rfl⟩) (preVA_of hA hR hS hK hX hLX _) rfl rfl hl.1 rfl (lv_room (Nat.le_of_ble_eq_true rfl)) dX5_closeOut_44 ⟨nle hm hem, nle hn hen⟩) hA hR hS (fun ad23 H locs hka hLX hR hS => ?_)
        have e24 := (hka 19 0 w15 (by decide)).1
        have w25 := (hka 19 0 w15 (by decide)).2
        have e26 := (hka 0 0 rfl (by decide)).1
        have hl : lv_has ls 4 [(3, .int v3), (2, .ref (ad23 19 0)), (0, .ref (ad23 0 0)), (1, .int v1)] := by rw [e24, e26]; exact hl
        have hKA := KA_tr hKA hka (by decide)
        have hm := nadd hm hem
        have hn := nadd hn hen
        obtain ⟨x27, hx27⟩ : ∃ y : Int32, y = v3 + 1 := ⟨_, rfl⟩
        have hf := kst_eq hx27 hf
        refine lv_iinc (v := x27) (lv' := [(3, .int x27), (2, .ref (ad23 19 0)), (0, .ref (ad23 0 0)), (1, .int v1)]) hx hb dX5_closeOut_47 hl (k := 0) rfl (by rw [hx27]; rfl) (by decide) rfl (fun ls hl => ?_)
        refine lv_goto (tgt := 23) hx hb dX5_closeOut_50 (by decide) ?_
        exact ih _ _ _ ad23 _ _ _ _ q18 x27 v1 w25 hKA hLX hm hn hR hS (lv_sub hl [0, 1, 2, 3] rfl) hf
def fX5_closeOut (σ : St) (a1 : Int32) : Option ((St) × Nat × Nat) := gd (vin a1 5) (bd (fX5_cancelOrdersOf (pI σ 1 a1.toNatClampNeg 0 (-1)) a1) (fun q2 => gd (sameN q2 (pI σ 1 a1.toNatClampNeg 0 (-1))) (bt2 (fX5_productsByRisk q2 a1) (fun q4 => gd (gN q4 4 = 1) (fX5_closeOut_L23 1000 q4 0 a1)))))
set_option maxHeartbeats 4000000 in
set_option maxRecDepth 100000 in
theorem mX5_closeOut (l : Launch) (D : va_G) (dA : Nat → ClassId) (ad : Nat → Nat → Nat) (σ : St) (sz x mi : Nat) (a1 : Int32) (σ' : St) (mc ms : Nat) (hf : fX5_closeOut σ a1 = some (σ', mc, ms)) : Met l yX5_closeOut (WSy yX5_closeOut cX5_closeOut 4 none) ({ frames := 10, cells := mc, slots := ms, locals := 250 } : Room) (va_Pc [.ref (ad 0 0), .int a1] (PreA D dA ad σ x mi sz)) (va_Qv (fun (ad' : Nat → Nat → Nat) => KA [15, 19] ad ad' σ σ' ∧ LX ad' σ' x) (fun ad' t => HC D dA (WA ad (cvC σ) sz) ad' σ' t.heap) (WA ad (cvC σ) sz)) mc ms (WA ad (cvC σ) sz) := by
  refine met_of (by decide) (Nat.le_of_ble_eq_true rfl) ?_
  intro p e s m below meth c ls hC hB hl
  obtain ⟨rfl, hR, hK, hX, hLX⟩ := hB
  have hA : ∀ q : Nat, s.heap.size ≤ q → WA ad (cvC σ) s.heap.size q := fun q h => Or.inr h
  have hR := WW_fit (B := WA ad (cvC σ) s.heap.size) hR (fun f i h => WA_in h)
  have hS : va_S (WA ad (cvC σ) s.heap.size) s.heap s.heap [] := va_S.rf
  generalize WA ad (cvC σ) s.heap.size = A0 at hA hR hS hX ⊢
  have hC : CTX p s m _ meth c cX5_closeOut 4 RX5 none := hC
  obtain ⟨hx, hb, hml, hown, hts, hr, hlk⟩ := id hC
  have hl : lv_has ls 4 [(0, .ref (ad 0 0)), (1, .int a1)] := hl
  have hKA : KA [15, 19] ad ad σ σ := KA_rf _ _ _
  have hm : mc = 0 + mc := (Nat.zero_add mc).symm
  have hn : ms = 0 + ms := (Nat.zero_add ms).symm
  unfold fX5_closeOut at hf
  refine lv_aload_n hx hb dX5_closeOut_0 rfl (lv_at hl 0 rfl) ?_
  refine va_get (D := D) (ci := 6) (C := RX5) (T := TX5) (N := 8) hx hb hts iuX5 hown hK.1 (WW_one hR (f := 0) (i := 0) rfl) 0 rfl rfl 0 (by decide) (hts _ q_164) (fun _ h9 => h9) rfl dX5_closeOut_1 ?_
  refine lv_iload_n hx hb dX5_closeOut_4 rfl (lv_at hl 1 rfl) ?_
  obtain ⟨g1, hf⟩ := gd_of hf
  refine va_aldq (C := RX0) hx hb hK.1 (WW_one hR (f := 1) (i := 0) rfl) 0 3 rfl rfl g1 dX5_closeOut_5 ?_
  refine lv_iconst (v := (-1)) hx hb dX5_closeOut_6 (by decide) ?_
  refine ww_putN (D := D) (ci := 1) (C := RX0) (T := TX0) (N := 8) (ty := .int) hx hb hts iuX0 tyX0 tyX0_ok nmX0 hown hK.1 hR hS (f := 2) (i := a1.toNatClampNeg) (vin_lt g1) rfl rfl 4 (by decide) (nw_f hK.2 q_107) (fun _ h9 => h9) rfl (by decide +kernel) rfl rfl (Nat.le_of_ble_eq_true rfl) dX5_closeOut_7 (fun H locs hR hS => ?_)
  have hR := HC_Account_hoursCalled a1.toNatClampNeg (-1) hR
  have hKA := KA_same (b := pI σ 1 a1.toNatClampNeg 0 (-1)) hKA ⟨rfl, rfl, rfl, rfl, rfl, rfl, rfl⟩
  have hLX := LX_same (b := pI σ 1 a1.toNatClampNeg 0 (-1)) hLX ⟨rfl, rfl, rfl, rfl, rfl, rfl, rfl⟩
  refine lv_aload_n hx hb dX5_closeOut_10 rfl (lv_at hl 0 rfl) ?_
  refine lv_iload_n hx hb dX5_closeOut_11 rfl (lv_at hl 1 rfl) ?_
  obtain ⟨q2, hcq2, hf⟩ := bd_of hf
  obtain ⟨g3, hf⟩ := gd_of hf
  refine kc_v (va_runV (As := [.int a1]) (rest := []) ⟨hx, hb, hml, hown, hts⟩ (mX5_cancelOrdersOf l D dA ad (pI σ 1 a1.toNatClampNeg 0 (-1)) _ a1 q2 hcq2) (cwV 1 hts gX5_276 rfl rfl rfl (by decide +kernel) ⟨Nat.le_of_ble_eq_true rfl, Nat.le_of_ble_eq_true rfl⟩) (preV_of hR hK (f := 0) (i := 0) rfl rfl rfl _) rfl rfl hl.1 rfl (lv_room (Nat.le_of_ble_eq_true rfl)) dX5_closeOut_12 ⟨nle0 hm, nle0 hn⟩) hA hR hS (fun H locs hR hS => ?_)
  have hKA := KA_same hKA g3
  have hLX := LX_same hLX g3
  refine lv_aload_n hx hb dX5_closeOut_15 rfl (lv_at hl 0 rfl) ?_
  refine lv_iload_n hx hb dX5_closeOut_16 rfl (lv_at hl 1 rfl) ?_
  obtain ⟨q4, m5, n6, m7, n8, hcq4, hf, hem, hen⟩ := bt2_of hf
  refine kca_r (va_runV (As := [.int a1]) (rest := []) ⟨hx, hb, hml, hown, hts⟩ (mX5_productsByRisk l D dA ad q2 _ x mi a1 q4 m5 n6 hcq4) (cwV 1 hts gX5_279 rfl rfl rfl (by decide +kernel) ⟨Nat.le_of_ble_eq_true rfl, Nat.le_of_ble_eq_true rfl⟩) (preVA_of hA hR hS hK hX hLX _) rfl rfl hl.1 rfl (lv_room (Nat.le_of_ble_eq_true rfl)) dX5_closeOut_17 ⟨nle hm hem, nle hn hen⟩) hA hR hS (fun ad9 H locs hka hLX hR hS => ?_)
  have e10 := (hka 0 0 rfl (by decide)).1
  have hl : lv_has ls 4 [(0, .ref (ad9 0 0)), (1, .int a1)] := by rw [e10]; exact hl
  obtain ⟨g11, hf⟩ := gd_of hf
  have hKA := KA_tr hKA hka (by decide)
  have hm := nadd hm hem
  have hn := nadd hn hen
  refine lv_astore_n (lv' := [(2, .ref (ad9 19 0)), (0, .ref (ad9 0 0)), (1, .int a1)]) hx hb dX5_closeOut_20 rfl hl (by decide) rfl (fun ls hl => ?_)
  refine lv_iconst (v := 0) hx hb dX5_closeOut_21 (by decide) ?_
  refine lv_istore_n (lv' := [(3, .int 0), (2, .ref (ad9 19 0)), (0, .ref (ad9 0 0)), (1, .int a1)]) hx hb dX5_closeOut_22 rfl hl (by decide) rfl (fun ls hl => ?_)
  exact wX5_closeOut_L23 hC hK hA hX 1000 _ _ _ ad9 _ _ _ _ q4 0 a1 (⟨rfl, g11⟩ : cvC q4 19 0) hKA hLX hm hn hR hS (lv_sub hl [0, 1, 2, 3] rfl) hf
def fX5_hour_L4 : Nat → St → Int32 → Int32 → Option ((Int32 × St) × Nat × Nat)
  | 0, _, _, _ => none
  | n + 1, σ, v2, v1 => if 5 ≤ v2 then some ((v1, σ), 0, 0) else gd (vin v2 5) (if ¬ (gI σ 0 v2.toNatClampNeg 0) = 0 then kst (v2 + 1) (fun x4 => fX5_hour_L4 n σ x4 v1) else bd (fX5_countHour σ v2) (fun q5 => gd (sameN q5.2 σ) (if q5.1 < 2 then kst (v2 + 1) (fun x8 => fX5_hour_L4 n q5.2 x8 v1) else bt2 (fX5_closeOut q5.2 v2) (fun q9 => bd (fX5_freeOf q9 v2) (fun q16 => gd (sameN q16.2 q9) (if 0 ≤ q16.1 then kst (v2 + 1) (fun x19 => fX5_hour_L4 n q16.2 x19 v1) else bt2 (fX5_fail q16.2 v2) (fun q20 => kst (v1 + 1) (fun x27 => kst (v2 + 1) (fun x28 => fX5_hour_L4 n q20 x28 x27)))))))))
set_option maxHeartbeats 4000000 in
set_option maxRecDepth 100000 in
theorem wX5_hour_L4 {p : Program} {l : Launch} {e : Env} {s : State} {m : MethodId} {args : Array Value} {below : List Frame} {meth : Method} {c : Code} {D : va_G} {dA : Nat → ClassId} {A0 : Nat → Prop} {x mi mc ms : Nat} {ad0 : Nat → Nat → Nat} {σ0 : St} {r : Int32} {σ' : St} (hC : CTX p s m args meth c cX5_hour 3 RX5 (some .int)) (hK : KS D dA s) (hA : ∀ q, s.heap.size ≤ q → A0 q) (hX : EXT x mi A0 s s.heap) : ∀ (n : Nat) (H : Heap) (locs : List Loc) (ls : Array Slot) (ad : Nat → Nat → Nat) (c0 s0 mr sr : Nat) (σ : St) (v2 : Int32) (v1 : Int32), KA [15, 19] ad0 ad σ0 σ → LX ad σ x → mc = c0 + mr → ms = s0 + sr → HC D dA A0 ad σ H → va_S A0 s.heap H locs → lv_has ls 3 [(2, .int v2), (1, .int v1), (0, .ref (ad 0 0))] → fX5_hour_L4 n σ v2 v1 = some ((r, σ'), mr, sr) → W p l e ({ frames := 11, cells := mc, slots := ms, locals := 273 } : Room) s m args below meth c H locs c0 s0 (MQ below (va_Qi (fun (z : Int32) (ad' : Nat → Nat → Nat) => z = r ∧ KA [15, 19] ad0 ad' σ0 σ' ∧ LX ad' σ' x) (fun ad' t => HC D dA A0 ad' σ' t.heap) A0) args s mc ms A0) (F0 m 4 ls []) := by
  obtain ⟨hx, hb, hml, hown, hts, hr, hlk⟩ := id hC
  intro n
  induction n with
  | zero =>
    intro H locs ls ad c0 s0 mr sr σ v2 v1 hKA hLX hm hn hR hS hl hf
    rw [fX5_hour_L4.eq_1] at hf
    cases hf
  | succ n ih =>
    intro H locs ls ad c0 s0 mr sr σ v2 v1 hKA hLX hm hn hR hS hl hf
    rw [fX5_hour_L4.eq_2] at hf
    refine lv_iload_n hx hb dX5_hour_4 rfl (lv_at hl 0 rfl) ?_
    refine lv_iconst (v := 5) hx hb dX5_hour_5 (by decide) ?_
    refine lv_icmp_ge (tgt := 59) hx hb dX5_hour_6 (by decide) (fun c1 => ?_) (fun c1 => ?_)
    · have hf := if_of_pos hf c1
      refine lv_iload_n hx hb dX5_hour_59 rfl (lv_at hl 1 rfl) ?_
      cases hf
      exact reta_i hC hKA hLX hR hS (nfin hm) (nfin hn) dX5_hour_60
    · have hf := if_of_neg hf c1
      refine lv_aload_n hx hb dX5_hour_9 rfl (lv_at hl 2 rfl) ?_
      refine va_get (D := D) (ci := 6) (C := RX5) (T := TX5) (N := 8) hx hb hts iuX5 hown hK.1 (WW_one hR (f := 0) (i := 0) rfl) 0 rfl rfl 0 (by decide) (hts _ q_164) (fun _ h9 => h9) rfl dX5_hour_10 ?_
      refine lv_iload_n hx hb dX5_hour_13 rfl (lv_at hl 0 rfl) ?_
      obtain ⟨g2, hf⟩ := gd_of hf
      refine va_aldq (C := RX0) hx hb hK.1 (WW_one hR (f := 1) (i := 0) rfl) 0 3 rfl rfl g2 dX5_hour_14 ?_
      refine va_getN (D := D) (ci := 1) (C := RX0) (T := TX0) (N := 8) hx hb hts iuX0 hown hK.1 (WW_one hR (f := 2) (i := v2.toNatClampNeg) (vin_lt g2)) 0 rfl rfl 3 (by decide) (nw_f hK.2 q_105) (fun _ h9 => h9) rfl dX5_hour_15 ?_
      refine lv_if_ne (tgt := 53) hx hb dX5_hour_18 (by decide) (fun c3 => ?_) (fun c3 => ?_)
      · have hf := if_of_pos hf c3
        obtain ⟨x4, hx4⟩ : ∃ y : Int32, y = v2 + 1 := ⟨_, rfl⟩
        have hf := kst_eq hx4 hf
        refine lv_iinc (v := x4) (lv' := [(2, .int x4), (1, .int v1), (0, .ref (ad 0 0))]) hx hb dX5_hour_53 hl (k := 0) rfl (by rw [hx4]; rfl) (by decide) rfl (fun ls hl => ?_)
        refine lv_goto (tgt := 4) hx hb dX5_hour_56 (by decide) ?_
        exact ih _ _ _ ad _ _ _ _ σ x4 v1 hKA hLX hm hn hR hS (lv_sub hl [0, 1, 2] rfl) hf
      · have hf := if_of_neg hf (fun q => q c3)
        refine lv_aload_n hx hb dX5_hour_21 rfl (lv_at hl 2 rfl) ?_
        refine lv_iload_n hx hb dX5_hour_22 rfl (lv_at hl 0 rfl) ?_
        obtain ⟨q5, hcq5, hf⟩ := bd_of hf
        obtain ⟨g6, hf⟩ := gd_of hf
        refine kc_i (va_runV (As := [.int v2]) (rest := []) ⟨hx, hb, hml, hown, hts⟩ (mX5_countHour l D dA ad σ _ v2 q5.1 q5.2 hcq5) (cwV 1 hts gX5_155 rfl rfl rfl (by decide +kernel) ⟨Nat.le_of_ble_eq_true rfl, Nat.le_of_ble_eq_true rfl⟩) (preV_of hR hK (f := 0) (i := 0) rfl rfl rfl _) rfl rfl hl.1 rfl (lv_room (Nat.le_of_ble_eq_true rfl)) dX5_hour_23 ⟨nle0 hm, nle0 hn⟩) hA hR hS (fun H locs hR hS => ?_)
        have hKA := KA_same hKA g6
        have hLX := LX_same hLX g6
        refine lv_iconst (v := 2) hx hb dX5_hour_26 (by decide) ?_
        refine lv_icmp_lt (tgt := 53) hx hb dX5_hour_27 (by decide) (fun c7 => ?_) (fun c7 => ?_)
        · have hf := if_of_pos hf c7
          obtain ⟨x8, hx8⟩ : ∃ y : Int32, y = v2 + 1 := ⟨_, rfl⟩
          have hf := kst_eq hx8 hf
          refine lv_iinc (v := x8) (lv' := [(2, .int x8), (1, .int v1), (0, .ref (ad 0 0))]) hx hb dX5_hour_53 hl (k := 0) rfl (by rw [hx8]; rfl) (by decide) rfl (fun ls hl => ?_)
          refine lv_goto (tgt := 4) hx hb dX5_hour_56 (by decide) ?_
          exact ih _ _ _ ad _ _ _ _ q5.2 x8 v1 hKA hLX hm hn hR hS (lv_sub hl [0, 1, 2] rfl) hf
        · have hf := if_of_neg hf c7
          refine lv_aload_n hx hb dX5_hour_30 rfl (lv_at hl 2 rfl) ?_
          refine lv_iload_n hx hb dX5_hour_31 rfl (lv_at hl 0 rfl) ?_
          obtain ⟨q9, m10, n11, m12, n13, hcq9, hf, hem, hen⟩ := bt2_of hf
          refine kca_v (va_runV (As := [.int v2]) (rest := []) ⟨hx, hb, hml, hown, hts⟩ (mX5_closeOut l D dA ad q5.2 _ x mi v2 q9 m10 n11 hcq9) (cwV 1 hts gX5_158 rfl rfl rfl (by decide +kernel) ⟨Nat.le_of_ble_eq_true rfl, Nat.le_of_ble_eq_true rfl⟩) (preVA_of hA hR hS hK hX hLX _) rfl rfl hl.1 rfl (lv_room (Nat.le_of_ble_eq_true rfl)) dX5_hour_32 ⟨nle hm hem, nle hn hen⟩) hA hR hS (fun ad14 H locs hka hLX hR hS => ?_)
          have e15 := (hka 0 0 rfl (by decide)).1
          have hl : lv_has ls 3 [(2, .int v2), (1, .int v1), (0, .ref (ad14 0 0))] := by rw [e15]; exact hl
          have hKA := KA_tr hKA hka (by decide)
          have hm := nadd hm hem
          have hn := nadd hn hen
          refine lv_aload_n hx hb dX5_hour_35 rfl (lv_at hl 2 rfl) ?_
          refine lv_iload_n hx hb dX5_hour_36 rfl (lv_at hl 0 rfl) ?_
          obtain ⟨q16, hcq16, hf⟩ := bd_of hf
          obtain ⟨g17, hf⟩ := gd_of hf
          refine kc_l (va_runV (As := [.int v2]) (rest := []) ⟨hx, hb, hml, hown, hts⟩ (mX5_freeOf l D dA ad14 q9 _ v2 q16.1 q16.2 hcq16) (cwV 1 hts gX5_86 rfl rfl rfl (by decide +kernel) ⟨Nat.le_of_ble_eq_true rfl, Nat.le_of_ble_eq_true rfl⟩) (preV_of hR hK (f := 0) (i := 0) rfl rfl rfl _) rfl rfl hl.1 rfl (lv_room (Nat.le_of_ble_eq_true rfl)) dX5_hour_37 ⟨nle0 hm, nle0 hn⟩) hA hR hS (fun H locs hR hS => ?_)
          have hKA := KA_same hKA g17
          have hLX := LX_same hLX g17
          refine lv_lconst (v := 0) hx hb dX5_hour_40 (by decide) ?_
          refine W.lcmp hx hb dX5_hour_41 ?_
          refine lv_if_ge (tgt := 53) hx hb dX5_hour_42 (by decide) (fun c180 => ?_) (fun c180 => ?_)
          · have c18 : 0 ≤ q16.1 := (lg_cmp_ge _ _).mp c180
            have hf := if_of_pos hf c18
            obtain ⟨x19, hx19⟩ : ∃ y : Int32, y = v2 + 1 := ⟨_, rfl⟩
            have hf := kst_eq hx19 hf
            refine lv_iinc (v := x19) (lv' := [(2, .int x19), (1, .int v1), (0, .ref (ad14 0 0))]) hx hb dX5_hour_53 hl (k := 0) rfl (by rw [hx19]; rfl) (by decide) rfl (fun ls hl => ?_)
            refine lv_goto (tgt := 4) hx hb dX5_hour_56 (by decide) ?_
            exact ih _ _ _ ad14 _ _ _ _ q16.2 x19 v1 hKA hLX hm hn hR hS (lv_sub hl [0, 1, 2] rfl) hf
          · have c18 : ¬ (0 ≤ q16.1) := fun q => c180 ((lg_cmp_ge _ _).mpr q)
            have hf := if_of_neg hf c18
            refine lv_aload_n hx hb dX5_hour_45 rfl (lv_at hl 2 rfl) ?_
            refine lv_iload_n hx hb dX5_hour_46 rfl (lv_at hl 0 rfl) ?_
            obtain ⟨q20, m21, n22, m23, n24, hcq20, hf, hem, hen⟩ := bt2_of hf
            refine kca_v (va_runV (As := [.int v2]) (rest := []) ⟨hx, hb, hml, hown, hts⟩ (mX5_fail l D dA ad14 q16.2 _ x mi v2 q20 m21 n22 hcq20) (cwV 1 hts gX5_161 rfl rfl rfl (by decide +kernel) ⟨Nat.le_of_ble_eq_true rfl, Nat.le_of_ble_eq_true rfl⟩) (preVA_of hA hR hS hK hX hLX _) rfl rfl hl.1 rfl (lv_room (Nat.le_of_ble_eq_true rfl)) dX5_hour_47 ⟨nle hm hem, nle hn hen⟩) hA hR hS (fun ad25 H locs hka hLX hR hS => ?_)
            have e26 := (hka 0 0 rfl (by decide)).1
            have hl : lv_has ls 3 [(2, .int v2), (1, .int v1), (0, .ref (ad25 0 0))] := by rw [e26]; exact hl
            have hKA := KA_tr hKA hka (by decide)
            have hm := nadd hm hem
            have hn := nadd hn hen
            obtain ⟨x27, hx27⟩ : ∃ y : Int32, y = v1 + 1 := ⟨_, rfl⟩
            have hf := kst_eq hx27 hf
            refine lv_iinc (v := x27) (lv' := [(1, .int x27), (2, .int v2), (0, .ref (ad25 0 0))]) hx hb dX5_hour_50 hl (k := 1) rfl (by rw [hx27]; rfl) (by decide) rfl (fun ls hl => ?_)
            obtain ⟨x28, hx28⟩ : ∃ y : Int32, y = v2 + 1 := ⟨_, rfl⟩
            have hf := kst_eq hx28 hf
            refine lv_iinc (v := x28) (lv' := [(2, .int x28), (1, .int x27), (0, .ref (ad25 0 0))]) hx hb dX5_hour_53 hl (k := 1) rfl (by rw [hx28]; rfl) (by decide) rfl (fun ls hl => ?_)
            refine lv_goto (tgt := 4) hx hb dX5_hour_56 (by decide) ?_
            exact ih _ _ _ ad25 _ _ _ _ q20 x28 x27 hKA hLX hm hn hR hS (lv_sub hl [0, 1, 2] rfl) hf
def fX5_hour (σ : St) : Option ((Int32 × St) × Nat × Nat) := fX5_hour_L4 1000 σ 0 0
set_option maxHeartbeats 4000000 in
set_option maxRecDepth 100000 in
theorem mX5_hour (l : Launch) (D : va_G) (dA : Nat → ClassId) (ad : Nat → Nat → Nat) (σ : St) (sz x mi : Nat) (r : Int32) (σ' : St) (mc ms : Nat) (hf : fX5_hour σ = some ((r, σ'), mc, ms)) : Met l yX5_hour (WSy yX5_hour cX5_hour 3 (some .int)) ({ frames := 11, cells := mc, slots := ms, locals := 273 } : Room) (va_Pc [.ref (ad 0 0)] (PreA D dA ad σ x mi sz)) (va_Qi (fun (z : Int32) (ad' : Nat → Nat → Nat) => z = r ∧ KA [15, 19] ad ad' σ σ' ∧ LX ad' σ' x) (fun ad' t => HC D dA (WA ad (cvC σ) sz) ad' σ' t.heap) (WA ad (cvC σ) sz)) mc ms (WA ad (cvC σ) sz) := by
  refine met_of (by decide) (Nat.le_of_ble_eq_true rfl) ?_
  intro p e s m below meth c ls hC hB hl
  obtain ⟨rfl, hR, hK, hX, hLX⟩ := hB
  have hA : ∀ q : Nat, s.heap.size ≤ q → WA ad (cvC σ) s.heap.size q := fun q h => Or.inr h
  have hR := WW_fit (B := WA ad (cvC σ) s.heap.size) hR (fun f i h => WA_in h)
  have hS : va_S (WA ad (cvC σ) s.heap.size) s.heap s.heap [] := va_S.rf
  generalize WA ad (cvC σ) s.heap.size = A0 at hA hR hS hX ⊢
  have hC : CTX p s m _ meth c cX5_hour 3 RX5 (some .int) := hC
  obtain ⟨hx, hb, hml, hown, hts, hr, hlk⟩ := id hC
  have hl : lv_has ls 3 [(0, .ref (ad 0 0))] := hl
  have hKA : KA [15, 19] ad ad σ σ := KA_rf _ _ _
  have hm : mc = 0 + mc := (Nat.zero_add mc).symm
  have hn : ms = 0 + ms := (Nat.zero_add ms).symm
  unfold fX5_hour at hf
  refine lv_iconst (v := 0) hx hb dX5_hour_0 (by decide) ?_
  refine lv_istore_n (lv' := [(1, .int 0), (0, .ref (ad 0 0))]) hx hb dX5_hour_1 rfl hl (by decide) rfl (fun ls hl => ?_)
  refine lv_iconst (v := 0) hx hb dX5_hour_2 (by decide) ?_
  refine lv_istore_n (lv' := [(2, .int 0), (1, .int 0), (0, .ref (ad 0 0))]) hx hb dX5_hour_3 rfl hl (by decide) rfl (fun ls hl => ?_)
  exact wX5_hour_L4 hC hK hA hX 1000 _ _ _ ad _ _ _ _ σ 0 0 hKA hLX hm hn hR hS (lv_sub hl [0, 1, 2] rfl) hf
