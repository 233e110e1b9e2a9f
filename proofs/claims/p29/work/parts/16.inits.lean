def fX2_init (σ : St) (a0 : Nat) (a1 : Int32) (a2 : Int32) (a3 : Int32) (a4 : Int32) (a5 : Int32) (a6 : Int32) : Option (St) := gd (bz a4) (some (pI (pI (pI (pI (pI (pI σ 30 a0 0 a1) 31 a0 0 a2) 32 a0 0 a3) 33 a0 0 a4) 34 a0 0 a5) 35 a0 0 a6))
set_option maxHeartbeats 4000000 in
set_option maxRecDepth 100000 in
theorem mX2_init (l : Launch) (D : va_G) (dA : Nat → ClassId) (ad : Nat → Nat → Nat) (σ : St) (sz : Nat) (a0 : Nat) (a1 : Int32) (a2 : Int32) (a3 : Int32) (a4 : Int32) (a5 : Int32) (a6 : Int32) (σ' : St) (hf : fX2_init σ a0 a1 a2 a3 a4 a5 a6 = some σ') (ha0 : cvC σ 17 a0) : Met l yX2_init (WSy yX2_init cX2_init 7 none) ({ frames := 1, cells := 0, slots := 0, locals := 20 } : Room) (va_Pc [.ref (ad 17 a0), .int a1, .int a2, .int a3, .int a4, .int a5, .int a6] (fun U => U.heap.size = sz ∧ HC D dA (fun _ => True) ad σ U.heap ∧ KS D dA U)) (va_Qv (fun (_ : Unit) => True) (fun _ t => HC D dA (WA ad (cvC σ) sz) ad σ' t.heap) (WA ad (cvC σ) sz)) 0 0 (WA ad (cvC σ) sz) := by
  refine met_ofI (by decide) (Nat.le_of_ble_eq_true rfl) ?_
  intro p e s m below meth c ls hC hin hB hl
  obtain ⟨rfl, hR, hK⟩ := hB
  have hA : ∀ q : Nat, s.heap.size ≤ q → WA ad (cvC σ) s.heap.size q := fun q h => Or.inr h
  have hR := WW_fit (B := WA ad (cvC σ) s.heap.size) hR (fun f i h => WA_in h)
  have hS : va_S (WA ad (cvC σ) s.heap.size) s.heap s.heap [] := va_S.rf
  generalize WA ad (cvC σ) s.heap.size = A0 at hA hR hS ⊢
  have hC : CTX p s m _ meth c cX2_init 7 RX2 none := hC
  obtain ⟨hx, hb, hml, hown, hts, hr, hlk⟩ := id hC
  have hl : lv_has ls 7 [(0, .ref (ad 17 a0)), (1, .int a1), (2, .int a2), (3, .int a3), (4, .int a4), (5, .int a5), (6, .int a6)] := hl
  unfold fX2_init at hf
  refine lv_aload_n hx hb dX2_init_0 rfl (lv_at hl 0 rfl) ?_
  refine W.objInit hx hb hown (hts _ q_424) (hts _ q_63) (hts _ q_64) rfl (by rw [hml]; exact hl.1) rfl dX2_init_1 (Nat.le_of_ble_eq_true rfl) (Nat.le_of_ble_eq_true rfl) ?_
  refine lv_aload_n hx hb dX2_init_4 rfl (lv_at hl 0 rfl) ?_
  refine lv_iload_n hx hb dX2_init_5 rfl (lv_at hl 1 rfl) ?_
  refine ww_putF (D := D) (ci := 3) (C := RX2) (T := TX2) (N := 6) (ty := .int) hx hb hts iuX2 tyX2 tyX2_ok nmX2 hown hK.1 hR hS (f := 17) (i := a0) ha0 rfl rfl 0 (by decide) (hts _ q_425) (fun _ h9 => h9) rfl hin rfl (by decide +kernel) rfl rfl (Nat.le_of_ble_eq_true rfl) dX2_init_6 (fun H locs hR hS => ?_)
  have hR := HC_Order_number a0 a1 hR
  refine lv_aload_n hx hb dX2_init_9 rfl (lv_at hl 0 rfl) ?_
  refine lv_iload_n hx hb dX2_init_10 rfl (lv_at hl 2 rfl) ?_
  refine ww_putF (D := D) (ci := 3) (C := RX2) (T := TX2) (N := 6) (ty := .int) hx hb hts iuX2 tyX2 tyX2_ok nmX2 hown hK.1 hR hS (f := 17) (i := a0) ha0 rfl rfl 1 (by decide) (hts _ q_427) (fun _ h9 => h9) rfl hin rfl (by decide +kernel) rfl rfl (Nat.le_of_ble_eq_true rfl) dX2_init_11 (fun H locs hR hS => ?_)
  have hR := HC_Order_member a0 a2 hR
  refine lv_aload_n hx hb dX2_init_14 rfl (lv_at hl 0 rfl) ?_
  refine lv_iload_n hx hb dX2_init_15 rfl (lv_at hl 3 rfl) ?_
  refine ww_putF (D := D) (ci := 3) (C := RX2) (T := TX2) (N := 6) (ty := .int) hx hb hts iuX2 tyX2 tyX2_ok nmX2 hown hK.1 hR hS (f := 17) (i := a0) ha0 rfl rfl 2 (by decide) (hts _ q_429) (fun _ h9 => h9) rfl hin rfl (by decide +kernel) rfl rfl (Nat.le_of_ble_eq_true rfl) dX2_init_16 (fun H locs hR hS => ?_)
  have hR := HC_Order_product a0 a3 hR
  refine lv_aload_n hx hb dX2_init_19 rfl (lv_at hl 0 rfl) ?_
  refine lv_iload hx hb dX2_init_20 (lv_at hl 4 rfl) ?_
  obtain ⟨g1, hf⟩ := gd_of hf
  refine ww_putF (D := D) (ci := 3) (C := RX2) (T := TX2) (N := 6) (ty := .boolean) hx hb hts iuX2 tyX2 tyX2_ok nmX2 hown hK.1 hR hS (f := 17) (i := a0) ha0 rfl rfl 3 (by decide) (hts _ q_431) (fun _ h9 => h9) rfl hin rfl (by decide +kernel) (bz_nar g1) (bz_fit g1) (Nat.le_of_ble_eq_true rfl) dX2_init_22 (fun H locs hR hS => ?_)
  have hR := HC_Order_buys a0 a4 hR
  refine lv_aload_n hx hb dX2_init_25 rfl (lv_at hl 0 rfl) ?_
  refine lv_iload hx hb dX2_init_26 (lv_at hl 5 rfl) ?_
  refine ww_putF (D := D) (ci := 3) (C := RX2) (T := TX2) (N := 6) (ty := .int) hx hb hts iuX2 tyX2 tyX2_ok nmX2 hown hK.1 hR hS (f := 17) (i := a0) ha0 rfl rfl 4 (by decide) (hts _ q_433) (fun _ h9 => h9) rfl hin rfl (by decide +kernel) rfl rfl (Nat.le_of_ble_eq_true rfl) dX2_init_28 (fun H locs hR hS => ?_)
  have hR := HC_Order_limit a0 a5 hR
  refine lv_aload_n hx hb dX2_init_31 rfl (lv_at hl 0 rfl) ?_
  refine lv_iload hx hb dX2_init_32 (lv_at hl 6 rfl) ?_
  refine ww_put (D := D) (ci := 3) (C := RX2) (T := TX2) (N := 6) (ty := .int) hx hb hts iuX2 tyX2 tyX2_ok nmX2 hown hK.1 hR hS (f := 17) (i := a0) ha0 rfl rfl 5 (by decide) (hts _ q_435) (fun _ h9 => h9) rfl (by decide +kernel) rfl rfl (Nat.le_of_ble_eq_true rfl) dX2_init_34 (fun H locs hR hS => ?_)
  have hR := HC_Order_rest a0 a6 hR
  cases hf
  exact ret_v hC hR hS dX2_init_37
def fX4_init (σ : St) (a0 : Nat) (a1 : Int32) (a2 : Int32) (a3 : Int32) (a4 : Int32) (a5 : Int32) : Option (St) := some (pI (pI (pI (pI (pI σ 40 a0 0 a1) 41 a0 0 a2) 42 a0 0 a3) 43 a0 0 a4) 44 a0 0 a5)
set_option maxHeartbeats 4000000 in
set_option maxRecDepth 100000 in
theorem mX4_init (l : Launch) (D : va_G) (dA : Nat → ClassId) (ad : Nat → Nat → Nat) (σ : St) (sz : Nat) (a0 : Nat) (a1 : Int32) (a2 : Int32) (a3 : Int32) (a4 : Int32) (a5 : Int32) (σ' : St) (hf : fX4_init σ a0 a1 a2 a3 a4 a5 = some σ') (ha0 : cvC σ 18 a0) : Met l yX4_init (WSy yX4_init cX4_init 6 none) ({ frames := 1, cells := 0, slots := 0, locals := 20 } : Room) (va_Pc [.ref (ad 18 a0), .int a1, .int a2, .int a3, .int a4, .int a5] (fun U => U.heap.size = sz ∧ HC D dA (fun _ => True) ad σ U.heap ∧ KS D dA U)) (va_Qv (fun (_ : Unit) => True) (fun _ t => HC D dA (WA ad (cvC σ) sz) ad σ' t.heap) (WA ad (cvC σ) sz)) 0 0 (WA ad (cvC σ) sz) := by
  refine met_ofI (by decide) (Nat.le_of_ble_eq_true rfl) ?_
  intro p e s m below meth c ls hC hin hB hl
  obtain ⟨rfl, hR, hK⟩ := hB
  have hA : ∀ q : Nat, s.heap.size ≤ q → WA ad (cvC σ) s.heap.size q := fun q h => Or.inr h
  have hR := WW_fit (B := WA ad (cvC σ) s.heap.size) hR (fun f i h => WA_in h)
  have hS : va_S (WA ad (cvC σ) s.heap.size) s.heap s.heap [] := va_S.rf
  generalize WA ad (cvC σ) s.heap.size = A0 at hA hR hS ⊢
  have hC : CTX p s m _ meth c cX4_init 6 RX4 none := hC
  obtain ⟨hx, hb, hml, hown, hts, hr, hlk⟩ := id hC
  have hl : lv_has ls 6 [(0, .ref (ad 18 a0)), (1, .int a1), (2, .int a2), (3, .int a3), (4, .int a4), (5, .int a5)] := hl
  unfold fX4_init at hf
  refine lv_aload_n hx hb dX4_init_0 rfl (lv_at hl 0 rfl) ?_
  refine W.objInit hx hb hown (hts _ q_534) (hts _ q_63) (hts _ q_64) rfl (by rw [hml]; exact hl.1) rfl dX4_init_1 (Nat.le_of_ble_eq_true rfl) (Nat.le_of_ble_eq_true rfl) ?_
  refine lv_aload_n hx hb dX4_init_4 rfl (lv_at hl 0 rfl) ?_
  refine lv_iload_n hx hb dX4_init_5 rfl (lv_at hl 1 rfl) ?_
  refine ww_putF (D := D) (ci := 5) (C := RX4) (T := TX4) (N := 5) (ty := .int) hx hb hts iuX4 tyX4 tyX4_ok nmX4 hown hK.1 hR hS (f := 18) (i := a0) ha0 rfl rfl 0 (by decide) (hts _ q_535) (fun _ h9 => h9) rfl hin rfl (by decide +kernel) rfl rfl (Nat.le_of_ble_eq_true rfl) dX4_init_6 (fun H locs hR hS => ?_)
  have hR := HC_Trade_buyer a0 a1 hR
  refine lv_aload_n hx hb dX4_init_9 rfl (lv_at hl 0 rfl) ?_
  refine lv_iload_n hx hb dX4_init_10 rfl (lv_at hl 2 rfl) ?_
  refine ww_putF (D := D) (ci := 5) (C := RX4) (T := TX4) (N := 5) (ty := .int) hx hb hts iuX4 tyX4 tyX4_ok nmX4 hown hK.1 hR hS (f := 18) (i := a0) ha0 rfl rfl 1 (by decide) (hts _ q_537) (fun _ h9 => h9) rfl hin rfl (by decide +kernel) rfl rfl (Nat.le_of_ble_eq_true rfl) dX4_init_11 (fun H locs hR hS => ?_)
  have hR := HC_Trade_seller a0 a2 hR
  refine lv_aload_n hx hb dX4_init_14 rfl (lv_at hl 0 rfl) ?_
  refine lv_iload_n hx hb dX4_init_15 rfl (lv_at hl 3 rfl) ?_
  refine ww_putF (D := D) (ci := 5) (C := RX4) (T := TX4) (N := 5) (ty := .int) hx hb hts iuX4 tyX4 tyX4_ok nmX4 hown hK.1 hR hS (f := 18) (i := a0) ha0 rfl rfl 2 (by decide) (hts _ q_539) (fun _ h9 => h9) rfl hin rfl (by decide +kernel) rfl rfl (Nat.le_of_ble_eq_true rfl) dX4_init_16 (fun H locs hR hS => ?_)
  have hR := HC_Trade_product a0 a3 hR
  refine lv_aload_n hx hb dX4_init_19 rfl (lv_at hl 0 rfl) ?_
  refine lv_iload hx hb dX4_init_20 (lv_at hl 4 rfl) ?_
  refine ww_putF (D := D) (ci := 5) (C := RX4) (T := TX4) (N := 5) (ty := .int) hx hb hts iuX4 tyX4 tyX4_ok nmX4 hown hK.1 hR hS (f := 18) (i := a0) ha0 rfl rfl 3 (by decide) (hts _ q_541) (fun _ h9 => h9) rfl hin rfl (by decide +kernel) rfl rfl (Nat.le_of_ble_eq_true rfl) dX4_init_22 (fun H locs hR hS => ?_)
  have hR := HC_Trade_quantity a0 a4 hR
  refine lv_aload_n hx hb dX4_init_25 rfl (lv_at hl 0 rfl) ?_
  refine lv_iload hx hb dX4_init_26 (lv_at hl 5 rfl) ?_
  refine ww_putF (D := D) (ci := 5) (C := RX4) (T := TX4) (N := 5) (ty := .int) hx hb hts iuX4 tyX4 tyX4_ok nmX4 hown hK.1 hR hS (f := 18) (i := a0) ha0 rfl rfl 4 (by decide) (hts _ q_543) (fun _ h9 => h9) rfl hin rfl (by decide +kernel) rfl rfl (Nat.le_of_ble_eq_true rfl) dX4_init_28 (fun H locs hR hS => ?_)
  have hR := HC_Trade_price a0 a5 hR
  cases hf
  exact ret_v hC hR hS dX4_init_31
