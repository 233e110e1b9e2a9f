/-- the reference, as it is made -/
def tau0 : St := (fun f _ j => if f = 1 then 100 else if f = 3 then (if j = 0 ∨ j = 4 then 100 else 0) else if f = 9 then -1 else 0, fun _ _ _ => 0, fun _ => 0)
abbrev f0NM : List Value := [.null, .null, .null, .null, .null, .null, .null, .null, .null, .null, .long 0, .int 0, .null, .null, .null, .null, .null, .null, .int 0, .null, .null, .int 0]
set_option maxHeartbeats 8000000 in
set_option maxRecDepth 100000 in
theorem mX6_init (l : Launch) (D : va_G) (dA : Nat → ClassId) (a sz : Nat) : Met l yX6_init (WSy yX6_init cX6_init 2 none) ({ frames := 1, cells := 18, slots := 592, locals := 20 } : Room) (va_Pc [.ref a] (fun U => U.heap.size = sz ∧ a < sz ∧ WW D vwCl (fun _ => True) (fun _ _ => a) (cvL [(0, 0)]) (fun _ _ => .inr (7, f0NM)) U.heap ∧ KS D dA U)) (va_Qv (fun (u : Nat → Nat → Nat) => u 0 0 = a) (fun u t => WW D vwCl (fun q => q = a ∨ sz ≤ q) u (cvM tau0) ((fun u => ctM dA u tau0) u) t.heap) (fun q => q = a ∨ sz ≤ q)) 18 592 (fun q => q = a ∨ sz ≤ q) := by
  refine met_ofI (by decide) (Nat.le_of_ble_eq_true rfl) ?_
  intro p e s m below meth c ls hC hin hB hl
  obtain ⟨rfl, ha0, hR, hK⟩ := hB
  have hA : ∀ q : Nat, s.heap.size ≤ q → (fun q => q = a ∨ s.heap.size ≤ q) q := fun q h => Or.inr h
  have hR := WW_fit (B := fun q => q = a ∨ s.heap.size ≤ q) hR (fun f i h => Or.inl rfl)
  have hS : va_S (fun q => q = a ∨ s.heap.size ≤ q) s.heap s.heap [] := va_S.rf
  generalize (fun q => q = a ∨ s.heap.size ≤ q) = A0 at hA hR hS ⊢
  have hC : CTX p s m _ meth c cX6_init 2 RX6 none := hC
  obtain ⟨hx, hb, hml, hown, hts, hr, hlk⟩ := id hC
  have hl : lv_has ls 2 [(0, .ref a)] := hl
  have hR : WW D vwCl A0 _ (cvL [(0, 0)]) (fun _ _ => .inr (7, f0NM)) s.heap := hR
  refine lv_aload_n hx hb dX6_init_0 rfl (lv_at hl 0 rfl) ?_
  refine W.objInit hx hb hown (hts _ q_807) (hts _ q_85) (hts _ q_86) rfl (by rw [hml]; exact hl.1) rfl dX6_init_1 (Nat.le_of_ble_eq_true rfl) (Nat.le_of_ble_eq_true rfl) ?_
  refine W.eq (g2 := F0 m 4 ls []) rfl ?_
  refine lv_aload_n hx hb dX6_init_4 rfl (lv_at hl 0 rfl) ?_
  refine lv_iconst (v := 3) hx hb dX6_init_5 (by decide) ?_
  refine cn_i 1 0 hx hb (hts _ q_154) hK.1 hR hS hA 3 (by decide) rfl (Nat.le_of_ble_eq_true rfl) (Nat.le_of_ble_eq_true rfl) (Nat.le_of_ble_eq_true rfl) (by decide) dX6_init_6 (fun q1 H hAq hR hS => ?_)
  refine ww_putF (D := D) (ci := 7) (C := RX6) (T := TX6) (N := 22) (ty := .array .int) hx hb hts iuX6 tyX6 tyX6_ok nmX6 hown hK.1 hR hS (f := 0) (i := 0) (by decide) (fs := [.null, .null, .null, .null, .null, .null, .null, .null, .null, .null, .long 0, .int 0, .null, .null, .null, .null, .null, .null, .int 0, .null, .null, .int 0]) rfl rfl 0 (by decide) (hts _ q_808) (fun _ h9 => h9) rfl hin rfl (by decide +kernel) rfl rfl (Nat.le_of_ble_eq_true rfl) dX6_init_8 (fun H locs hR hS => ?_)
  have hR : WW D vwCl A0 _ (cvL [(1, 0), (0, 0)]) (ctU _ 0 0 (.inr (7, [.ref q1, .null, .null, .null, .null, .null, .null, .null, .null, .null, .long 0, .int 0, .null, .null, .null, .null, .null, .null, .int 0, .null, .null, .int 0]))) H := hR
  refine lv_aload_n hx hb dX6_init_11 rfl (lv_at hl 0 rfl) ?_
  refine lv_bipush (v := 12) hx hb dX6_init_12 (by decide) ?_
  refine cn_i 2 0 hx hb (hts _ q_154) hK.1 hR hS hA 12 (by decide) rfl (Nat.le_of_ble_eq_true rfl) (Nat.le_of_ble_eq_true rfl) (Nat.le_of_ble_eq_true rfl) (by decide) dX6_init_14 (fun q2 H hAq hR hS => ?_)
  refine ww_putF (D := D) (ci := 7) (C := RX6) (T := TX6) (N := 22) (ty := .array .int) hx hb hts iuX6 tyX6 tyX6_ok nmX6 hown hK.1 hR hS (f := 0) (i := 0) (by decide) (fs := [.ref q1, .null, .null, .null, .null, .null, .null, .null, .null, .null, .long 0, .int 0, .null, .null, .null, .null, .null, .null, .int 0, .null, .null, .int 0]) rfl rfl 1 (by decide) (hts _ q_809) (fun _ h9 => h9) rfl hin rfl (by decide +kernel) rfl rfl (Nat.le_of_ble_eq_true rfl) dX6_init_16 (fun H locs hR hS => ?_)
  have hR : WW D vwCl A0 _ (cvL [(2, 0), (1, 0), (0, 0)]) (ctU _ 0 0 (.inr (7, [.ref q1, .ref q2, .null, .null, .null, .null, .null, .null, .null, .null, .long 0, .int 0, .null, .null, .null, .null, .null, .null, .int 0, .null, .null, .int 0]))) H := hR
  refine lv_aload_n hx hb dX6_init_19 rfl (lv_at hl 0 rfl) ?_
  refine lv_bipush (v := 8) hx hb dX6_init_20 (by decide) ?_
  refine cn_i 3 0 hx hb (hts _ q_154) hK.1 hR hS hA 8 (by decide) rfl (Nat.le_of_ble_eq_true rfl) (Nat.le_of_ble_eq_true rfl) (Nat.le_of_ble_eq_true rfl) (by decide) dX6_init_22 (fun q3 H hAq hR hS => ?_)
  refine ww_putF (D := D) (ci := 7) (C := RX6) (T := TX6) (N := 22) (ty := .array .int) hx hb hts iuX6 tyX6 tyX6_ok nmX6 hown hK.1 hR hS (f := 0) (i := 0) (by decide) (fs := [.ref q1, .ref q2, .null, .null, .null, .null, .null, .null, .null, .null, .long 0, .int 0, .null, .null, .null, .null, .null, .null, .int 0, .null, .null, .int 0]) rfl rfl 2 (by decide) (hts _ q_810) (fun _ h9 => h9) rfl hin rfl (by decide +kernel) rfl rfl (Nat.le_of_ble_eq_true rfl) dX6_init_24 (fun H locs hR hS => ?_)
  have hR : WW D vwCl A0 _ (cvL [(3, 0), (2, 0), (1, 0), (0, 0)]) (ctU _ 0 0 (.inr (7, [.ref q1, .ref q2, .ref q3, .null, .null, .null, .null, .null, .null, .null, .long 0, .int 0, .null, .null, .null, .null, .null, .null, .int 0, .null, .null, .int 0]))) H := hR
  refine lv_aload_n hx hb dX6_init_27 rfl (lv_at hl 0 rfl) ?_
  refine lv_bipush (v := 15) hx hb dX6_init_28 (by decide) ?_
  refine cn_i 4 0 hx hb (hts _ q_154) hK.1 hR hS hA 15 (by decide) rfl (Nat.le_of_ble_eq_true rfl) (Nat.le_of_ble_eq_true rfl) (Nat.le_of_ble_eq_true rfl) (by decide) dX6_init_30 (fun q4 H hAq hR hS => ?_)
  refine ww_putF (D := D) (ci := 7) (C := RX6) (T := TX6) (N := 22) (ty := .array .int) hx hb hts iuX6 tyX6 tyX6_ok nmX6 hown hK.1 hR hS (f := 0) (i := 0) (by decide) (fs := [.ref q1, .ref q2, .ref q3, .null, .null, .null, .null, .null, .null, .null, .long 0, .int 0, .null, .null, .null, .null, .null, .null, .int 0, .null, .null, .int 0]) rfl rfl 3 (by decide) (hts _ q_811) (fun _ h9 => h9) rfl hin rfl (by decide +kernel) rfl rfl (Nat.le_of_ble_eq_true rfl) dX6_init_32 (fun H locs hR hS => ?_)
  have hR : WW D vwCl A0 _ (cvL [(4, 0), (3, 0), (2, 0), (1, 0), (0, 0)]) (ctU _ 0 0 (.inr (7, [.ref q1, .ref q2, .ref q3, .ref q4, .null, .null, .null, .null, .null, .null, .long 0, .int 0, .null, .null, .null, .null, .null, .null, .int 0, .null, .null, .int 0]))) H := hR
  refine lv_aload_n hx hb dX6_init_35 rfl (lv_at hl 0 rfl) ?_
  refine lv_bipush (v := 15) hx hb dX6_init_36 (by decide) ?_
  refine cn_l 5 0 hx hb (hts _ q_153) hK.1 hR hS hA 15 (by decide) rfl (Nat.le_of_ble_eq_true rfl) (Nat.le_of_ble_eq_true rfl) (Nat.le_of_ble_eq_true rfl) (by decide) dX6_init_38 (fun q5 H hAq hR hS => ?_)
  refine ww_putF (D := D) (ci := 7) (C := RX6) (T := TX6) (N := 22) (ty := .array .long) hx hb hts iuX6 tyX6 tyX6_ok nmX6 hown hK.1 hR hS (f := 0) (i := 0) (by decide) (fs := [.ref q1, .ref q2, .ref q3, .ref q4, .null, .null, .null, .null, .null, .null, .long 0, .int 0, .null, .null, .null, .null, .null, .null, .int 0, .null, .null, .int 0]) rfl rfl 4 (by decide) (hts _ q_812) (fun _ h9 => h9) rfl hin rfl (by decide +kernel) rfl rfl (Nat.le_of_ble_eq_true rfl) dX6_init_40 (fun H locs hR hS => ?_)
  have hR : WW D vwCl A0 _ (cvL [(5, 0), (4, 0), (3, 0), (2, 0), (1, 0), (0, 0)]) (ctU _ 0 0 (.inr (7, [.ref q1, .ref q2, .ref q3, .ref q4, .ref q5, .null, .null, .null, .null, .null, .long 0, .int 0, .null, .null, .null, .null, .null, .null, .int 0, .null, .null, .int 0]))) H := hR
  refine lv_aload_n hx hb dX6_init_43 rfl (lv_at hl 0 rfl) ?_
  refine lv_iconst (v := 5) hx hb dX6_init_44 (by decide) ?_
  refine cn_l 6 0 hx hb (hts _ q_153) hK.1 hR hS hA 5 (by decide) rfl (Nat.le_of_ble_eq_true rfl) (Nat.le_of_ble_eq_true rfl) (Nat.le_of_ble_eq_true rfl) (by decide) dX6_init_45 (fun q6 H hAq hR hS => ?_)
  refine ww_putF (D := D) (ci := 7) (C := RX6) (T := TX6) (N := 22) (ty := .array .long) hx hb hts iuX6 tyX6 tyX6_ok nmX6 hown hK.1 hR hS (f := 0) (i := 0) (by decide) (fs := [.ref q1, .ref q2, .ref q3, .ref q4, .ref q5, .null, .null, .null, .null, .null, .long 0, .int 0, .null, .null, .null, .null, .null, .null, .int 0, .null, .null, .int 0]) rfl rfl 5 (by decide) (hts _ q_813) (fun _ h9 => h9) rfl hin rfl (by decide +kernel) rfl rfl (Nat.le_of_ble_eq_true rfl) dX6_init_47 (fun H locs hR hS => ?_)
  have hR : WW D vwCl A0 _ (cvL [(6, 0), (5, 0), (4, 0), (3, 0), (2, 0), (1, 0), (0, 0)]) (ctU _ 0 0 (.inr (7, [.ref q1, .ref q2, .ref q3, .ref q4, .ref q5, .ref q6, .null, .null, .null, .null, .long 0, .int 0, .null, .null, .null, .null, .null, .null, .int 0, .null, .null, .int 0]))) H := hR
  refine lv_aload_n hx hb dX6_init_50 rfl (lv_at hl 0 rfl) ?_
  refine lv_bipush (v := 10) hx hb dX6_init_51 (by decide) ?_
  refine cn_i 7 0 hx hb (hts _ q_154) hK.1 hR hS hA 10 (by decide) rfl (Nat.le_of_ble_eq_true rfl) (Nat.le_of_ble_eq_true rfl) (Nat.le_of_ble_eq_true rfl) (by decide) dX6_init_53 (fun q7 H hAq hR hS => ?_)
  refine ww_putF (D := D) (ci := 7) (C := RX6) (T := TX6) (N := 22) (ty := .array .int) hx hb hts iuX6 tyX6 tyX6_ok nmX6 hown hK.1 hR hS (f := 0) (i := 0) (by decide) (fs := [.ref q1, .ref q2, .ref q3, .ref q4, .ref q5, .ref q6, .null, .null, .null, .null, .long 0, .int 0, .null, .null, .null, .null, .null, .null, .int 0, .null, .null, .int 0]) rfl rfl 6 (by decide) (hts _ q_814) (fun _ h9 => h9) rfl hin rfl (by decide +kernel) rfl rfl (Nat.le_of_ble_eq_true rfl) dX6_init_55 (fun H locs hR hS => ?_)
  have hR : WW D vwCl A0 _ (cvL [(7, 0), (6, 0), (5, 0), (4, 0), (3, 0), (2, 0), (1, 0), (0, 0)]) (ctU _ 0 0 (.inr (7, [.ref q1, .ref q2, .ref q3, .ref q4, .ref q5, .ref q6, .ref q7, .null, .null, .null, .long 0, .int 0, .null, .null, .null, .null, .null, .null, .int 0, .null, .null, .int 0]))) H := hR
  refine lv_aload_n hx hb dX6_init_58 rfl (lv_at hl 0 rfl) ?_
  refine lv_iconst (v := 5) hx hb dX6_init_59 (by decide) ?_
  refine cn_l 8 0 hx hb (hts _ q_153) hK.1 hR hS hA 5 (by decide) rfl (Nat.le_of_ble_eq_true rfl) (Nat.le_of_ble_eq_true rfl) (Nat.le_of_ble_eq_true rfl) (by decide) dX6_init_60 (fun q8 H hAq hR hS => ?_)
  refine ww_putF (D := D) (ci := 7) (C := RX6) (T := TX6) (N := 22) (ty := .array .long) hx hb hts iuX6 tyX6 tyX6_ok nmX6 hown hK.1 hR hS (f := 0) (i := 0) (by decide) (fs := [.ref q1, .ref q2, .ref q3, .ref q4, .ref q5, .ref q6, .ref q7, .null, .null, .null, .long 0, .int 0, .null, .null, .null, .null, .null, .null, .int 0, .null, .null, .int 0]) rfl rfl 7 (by decide) (hts _ q_815) (fun _ h9 => h9) rfl hin rfl (by decide +kernel) rfl rfl (Nat.le_of_ble_eq_true rfl) dX6_init_62 (fun H locs hR hS => ?_)
  have hR : WW D vwCl A0 _ (cvL [(8, 0), (7, 0), (6, 0), (5, 0), (4, 0), (3, 0), (2, 0), (1, 0), (0, 0)]) (ctU _ 0 0 (.inr (7, [.ref q1, .ref q2, .ref q3, .ref q4, .ref q5, .ref q6, .ref q7, .ref q8, .null, .null, .long 0, .int 0, .null, .null, .null, .null, .null, .null, .int 0, .null, .null, .int 0]))) H := hR
  refine lv_aload_n hx hb dX6_init_65 rfl (lv_at hl 0 rfl) ?_
  refine lv_iconst (v := 5) hx hb dX6_init_66 (by decide) ?_
  refine cn_i 9 0 hx hb (hts _ q_154) hK.1 hR hS hA 5 (by decide) rfl (Nat.le_of_ble_eq_true rfl) (Nat.le_of_ble_eq_true rfl) (Nat.le_of_ble_eq_true rfl) (by decide) dX6_init_67 (fun q9 H hAq hR hS => ?_)
  refine ww_putF (D := D) (ci := 7) (C := RX6) (T := TX6) (N := 22) (ty := .array .int) hx hb hts iuX6 tyX6 tyX6_ok nmX6 hown hK.1 hR hS (f := 0) (i := 0) (by decide) (fs := [.ref q1, .ref q2, .ref q3, .ref q4, .ref q5, .ref q6, .ref q7, .ref q8, .null, .null, .long 0, .int 0, .null, .null, .null, .null, .null, .null, .int 0, .null, .null, .int 0]) rfl rfl 8 (by decide) (hts _ q_816) (fun _ h9 => h9) rfl hin rfl (by decide +kernel) rfl rfl (Nat.le_of_ble_eq_true rfl) dX6_init_69 (fun H locs hR hS => ?_)
  have hR : WW D vwCl A0 _ (cvL [(9, 0), (8, 0), (7, 0), (6, 0), (5, 0), (4, 0), (3, 0), (2, 0), (1, 0), (0, 0)]) (ctU _ 0 0 (.inr (7, [.ref q1, .ref q2, .ref q3, .ref q4, .ref q5, .ref q6, .ref q7, .ref q8, .ref q9, .null, .long 0, .int 0, .null, .null, .null, .null, .null, .null, .int 0, .null, .null, .int 0]))) H := hR
  refine lv_aload_n hx hb dX6_init_72 rfl (lv_at hl 0 rfl) ?_
  refine lv_iconst (v := 5) hx hb dX6_init_73 (by decide) ?_
  refine cn_z 10 0 hx hb (hts _ q_875) hK.1 hR hS hA 5 (by decide) rfl (Nat.le_of_ble_eq_true rfl) (Nat.le_of_ble_eq_true rfl) (Nat.le_of_ble_eq_true rfl) (by decide) dX6_init_74 (fun q10 H hAq hR hS => ?_)
  refine ww_putF (D := D) (ci := 7) (C := RX6) (T := TX6) (N := 22) (ty := .array .boolean) hx hb hts iuX6 tyX6 tyX6_ok nmX6 hown hK.1 hR hS (f := 0) (i := 0) (by decide) (fs := [.ref q1, .ref q2, .ref q3, .ref q4, .ref q5, .ref q6, .ref q7, .ref q8, .ref q9, .null, .long 0, .int 0, .null, .null, .null, .null, .null, .null, .int 0, .null, .null, .int 0]) rfl rfl 9 (by decide) (hts _ q_817) (fun _ h9 => h9) rfl hin rfl (by decide +kernel) rfl rfl (Nat.le_of_ble_eq_true rfl) dX6_init_76 (fun H locs hR hS => ?_)
  have hR : WW D vwCl A0 _ (cvL [(10, 0), (9, 0), (8, 0), (7, 0), (6, 0), (5, 0), (4, 0), (3, 0), (2, 0), (1, 0), (0, 0)]) (ctU _ 0 0 (.inr (7, [.ref q1, .ref q2, .ref q3, .ref q4, .ref q5, .ref q6, .ref q7, .ref q8, .ref q9, .ref q10, .long 0, .int 0, .null, .null, .null, .null, .null, .null, .int 0, .null, .null, .int 0]))) H := hR
  refine lv_aload_n hx hb dX6_init_79 rfl (lv_at hl 0 rfl) ?_
  refine lv_bipush (v := 100) hx hb dX6_init_80 (by decide) ?_
  refine cn_i 11 0 hx hb (hts _ q_154) hK.1 hR hS hA 100 (by decide) rfl (Nat.le_of_ble_eq_true rfl) (Nat.le_of_ble_eq_true rfl) (Nat.le_of_ble_eq_true rfl) (by decide) dX6_init_82 (fun q11 H hAq hR hS => ?_)
  refine ww_putF (D := D) (ci := 7) (C := RX6) (T := TX6) (N := 22) (ty := .array .int) hx hb hts iuX6 tyX6 tyX6_ok nmX6 hown hK.1 hR hS (f := 0) (i := 0) (by decide) (fs := [.ref q1, .ref q2, .ref q3, .ref q4, .ref q5, .ref q6, .ref q7, .ref q8, .ref q9, .ref q10, .long 0, .int 0, .null, .null, .null, .null, .null, .null, .int 0, .null, .null, .int 0]) rfl rfl 12 (by decide) (hts _ q_820) (fun _ h9 => h9) rfl hin rfl (by decide +kernel) rfl rfl (Nat.le_of_ble_eq_true rfl) dX6_init_84 (fun H locs hR hS => ?_)
  have hR : WW D vwCl A0 _ (cvL [(11, 0), (10, 0), (9, 0), (8, 0), (7, 0), (6, 0), (5, 0), (4, 0), (3, 0), (2, 0), (1, 0), (0, 0)]) (ctU _ 0 0 (.inr (7, [.ref q1, .ref q2, .ref q3, .ref q4, .ref q5, .ref q6, .ref q7, .ref q8, .ref q9, .ref q10, .long 0, .int 0, .ref q11, .null, .null, .null, .null, .null, .int 0, .null, .null, .int 0]))) H := hR
  refine lv_aload_n hx hb dX6_init_87 rfl (lv_at hl 0 rfl) ?_
  refine lv_bipush (v := 100) hx hb dX6_init_88 (by decide) ?_
  refine cn_i 12 0 hx hb (hts _ q_154) hK.1 hR hS hA 100 (by decide) rfl (Nat.le_of_ble_eq_true rfl) (Nat.le_of_ble_eq_true rfl) (Nat.le_of_ble_eq_true rfl) (by decide) dX6_init_90 (fun q12 H hAq hR hS => ?_)
  refine ww_putF (D := D) (ci := 7) (C := RX6) (T := TX6) (N := 22) (ty := .array .int) hx hb hts iuX6 tyX6 tyX6_ok nmX6 hown hK.1 hR hS (f := 0) (i := 0) (by decide) (fs := [.ref q1, .ref q2, .ref q3, .ref q4, .ref q5, .ref q6, .ref q7, .ref q8, .ref q9, .ref q10, .long 0, .int 0, .ref q11, .null, .null, .null, .null, .null, .int 0, .null, .null, .int 0]) rfl rfl 13 (by decide) (hts _ q_821) (fun _ h9 => h9) rfl hin rfl (by decide +kernel) rfl rfl (Nat.le_of_ble_eq_true rfl) dX6_init_92 (fun H locs hR hS => ?_)
  have hR : WW D vwCl A0 _ (cvL [(12, 0), (11, 0), (10, 0), (9, 0), (8, 0), (7, 0), (6, 0), (5, 0), (4, 0), (3, 0), (2, 0), (1, 0), (0, 0)]) (ctU _ 0 0 (.inr (7, [.ref q1, .ref q2, .ref q3, .ref q4, .ref q5, .ref q6, .ref q7, .ref q8, .ref q9, .ref q10, .long 0, .int 0, .ref q11, .ref q12, .null, .null, .null, .null, .int 0, .null, .null, .int 0]))) H := hR
  refine lv_aload_n hx hb dX6_init_95 rfl (lv_at hl 0 rfl) ?_
  refine lv_bipush (v := 100) hx hb dX6_init_96 (by decide) ?_
  refine cn_z 13 0 hx hb (hts _ q_875) hK.1 hR hS hA 100 (by decide) rfl (Nat.le_of_ble_eq_true rfl) (Nat.le_of_ble_eq_true rfl) (Nat.le_of_ble_eq_true rfl) (by decide) dX6_init_98 (fun q13 H hAq hR hS => ?_)
  refine ww_putF (D := D) (ci := 7) (C := RX6) (T := TX6) (N := 22) (ty := .array .boolean) hx hb hts iuX6 tyX6 tyX6_ok nmX6 hown hK.1 hR hS (f := 0) (i := 0) (by decide) (fs := [.ref q1, .ref q2, .ref q3, .ref q4, .ref q5, .ref q6, .ref q7, .ref q8, .ref q9, .ref q10, .long 0, .int 0, .ref q11, .ref q12, .null, .null, .null, .null, .int 0, .null, .null, .int 0]) rfl rfl 14 (by decide) (hts _ q_822) (fun _ h9 => h9) rfl hin rfl (by decide +kernel) rfl rfl (Nat.le_of_ble_eq_true rfl) dX6_init_100 (fun H locs hR hS => ?_)
  have hR : WW D vwCl A0 _ (cvL [(13, 0), (12, 0), (11, 0), (10, 0), (9, 0), (8, 0), (7, 0), (6, 0), (5, 0), (4, 0), (3, 0), (2, 0), (1, 0), (0, 0)]) (ctU _ 0 0 (.inr (7, [.ref q1, .ref q2, .ref q3, .ref q4, .ref q5, .ref q6, .ref q7, .ref q8, .ref q9, .ref q10, .long 0, .int 0, .ref q11, .ref q12, .ref q13, .null, .null, .null, .int 0, .null, .null, .int 0]))) H := hR
  refine lv_aload_n hx hb dX6_init_103 rfl (lv_at hl 0 rfl) ?_
  refine lv_bipush (v := 100) hx hb dX6_init_104 (by decide) ?_
  refine cn_i 14 0 hx hb (hts _ q_154) hK.1 hR hS hA 100 (by decide) rfl (Nat.le_of_ble_eq_true rfl) (Nat.le_of_ble_eq_true rfl) (Nat.le_of_ble_eq_true rfl) (by decide) dX6_init_106 (fun q14 H hAq hR hS => ?_)
  refine ww_putF (D := D) (ci := 7) (C := RX6) (T := TX6) (N := 22) (ty := .array .int) hx hb hts iuX6 tyX6 tyX6_ok nmX6 hown hK.1 hR hS (f := 0) (i := 0) (by decide) (fs := [.ref q1, .ref q2, .ref q3, .ref q4, .ref q5, .ref q6, .ref q7, .ref q8, .ref q9, .ref q10, .long 0, .int 0, .ref q11, .ref q12, .ref q13, .null, .null, .null, .int 0, .null, .null, .int 0]) rfl rfl 15 (by decide) (hts _ q_823) (fun _ h9 => h9) rfl hin rfl (by decide +kernel) rfl rfl (Nat.le_of_ble_eq_true rfl) dX6_init_108 (fun H locs hR hS => ?_)
  have hR : WW D vwCl A0 _ (cvL [(14, 0), (13, 0), (12, 0), (11, 0), (10, 0), (9, 0), (8, 0), (7, 0), (6, 0), (5, 0), (4, 0), (3, 0), (2, 0), (1, 0), (0, 0)]) (ctU _ 0 0 (.inr (7, [.ref q1, .ref q2, .ref q3, .ref q4, .ref q5, .ref q6, .ref q7, .ref q8, .ref q9, .ref q10, .long 0, .int 0, .ref q11, .ref q12, .ref q13, .ref q14, .null, .null, .int 0, .null, .null, .int 0]))) H := hR
  refine lv_aload_n hx hb dX6_init_111 rfl (lv_at hl 0 rfl) ?_
  refine lv_bipush (v := 100) hx hb dX6_init_112 (by decide) ?_
  refine cn_i 15 0 hx hb (hts _ q_154) hK.1 hR hS hA 100 (by decide) rfl (Nat.le_of_ble_eq_true rfl) (Nat.le_of_ble_eq_true rfl) (Nat.le_of_ble_eq_true rfl) (by decide) dX6_init_114 (fun q15 H hAq hR hS => ?_)
  refine ww_putF (D := D) (ci := 7) (C := RX6) (T := TX6) (N := 22) (ty := .array .int) hx hb hts iuX6 tyX6 tyX6_ok nmX6 hown hK.1 hR hS (f := 0) (i := 0) (by decide) (fs := [.ref q1, .ref q2, .ref q3, .ref q4, .ref q5, .ref q6, .ref q7, .ref q8, .ref q9, .ref q10, .long 0, .int 0, .ref q11, .ref q12, .ref q13, .ref q14, .null, .null, .int 0, .null, .null, .int 0]) rfl rfl 16 (by decide) (hts _ q_824) (fun _ h9 => h9) rfl hin rfl (by decide +kernel) rfl rfl (Nat.le_of_ble_eq_true rfl) dX6_init_116 (fun H locs hR hS => ?_)
  have hR : WW D vwCl A0 _ (cvL [(15, 0), (14, 0), (13, 0), (12, 0), (11, 0), (10, 0), (9, 0), (8, 0), (7, 0), (6, 0), (5, 0), (4, 0), (3, 0), (2, 0), (1, 0), (0, 0)]) (ctU _ 0 0 (.inr (7, [.ref q1, .ref q2, .ref q3, .ref q4, .ref q5, .ref q6, .ref q7, .ref q8, .ref q9, .ref q10, .long 0, .int 0, .ref q11, .ref q12, .ref q13, .ref q14, .ref q15, .null, .int 0, .null, .null, .int 0]))) H := hR
  refine lv_aload_n hx hb dX6_init_119 rfl (lv_at hl 0 rfl) ?_
  refine lv_iconst (v := 3) hx hb dX6_init_120 (by decide) ?_
  refine cn_z 16 0 hx hb (hts _ q_875) hK.1 hR hS hA 3 (by decide) rfl (Nat.le_of_ble_eq_true rfl) (Nat.le_of_ble_eq_true rfl) (Nat.le_of_ble_eq_true rfl) (by decide) dX6_init_121 (fun q16 H hAq hR hS => ?_)
  refine ww_putF (D := D) (ci := 7) (C := RX6) (T := TX6) (N := 22) (ty := .array .boolean) hx hb hts iuX6 tyX6 tyX6_ok nmX6 hown hK.1 hR hS (f := 0) (i := 0) (by decide) (fs := [.ref q1, .ref q2, .ref q3, .ref q4, .ref q5, .ref q6, .ref q7, .ref q8, .ref q9, .ref q10, .long 0, .int 0, .ref q11, .ref q12, .ref q13, .ref q14, .ref q15, .null, .int 0, .null, .null, .int 0]) rfl rfl 17 (by decide) (hts _ q_825) (fun _ h9 => h9) rfl hin rfl (by decide +kernel) rfl rfl (Nat.le_of_ble_eq_true rfl) dX6_init_123 (fun H locs hR hS => ?_)
  have hR : WW D vwCl A0 _ (cvL [(16, 0), (15, 0), (14, 0), (13, 0), (12, 0), (11, 0), (10, 0), (9, 0), (8, 0), (7, 0), (6, 0), (5, 0), (4, 0), (3, 0), (2, 0), (1, 0), (0, 0)]) (ctU _ 0 0 (.inr (7, [.ref q1, .ref q2, .ref q3, .ref q4, .ref q5, .ref q6, .ref q7, .ref q8, .ref q9, .ref q10, .long 0, .int 0, .ref q11, .ref q12, .ref q13, .ref q14, .ref q15, .ref q16, .int 0, .null, .null, .int 0]))) H := hR
  refine lv_aload_n hx hb dX6_init_126 rfl (lv_at hl 0 rfl) ?_
  refine lv_iconst (v := 3) hx hb dX6_init_127 (by decide) ?_
  refine cn_i 17 0 hx hb (hts _ q_154) hK.1 hR hS hA 3 (by decide) rfl (Nat.le_of_ble_eq_true rfl) (Nat.le_of_ble_eq_true rfl) (Nat.le_of_ble_eq_true rfl) (by decide) dX6_init_128 (fun q17 H hAq hR hS => ?_)
  refine ww_putF (D := D) (ci := 7) (C := RX6) (T := TX6) (N := 22) (ty := .array .int) hx hb hts iuX6 tyX6 tyX6_ok nmX6 hown hK.1 hR hS (f := 0) (i := 0) (by decide) (fs := [.ref q1, .ref q2, .ref q3, .ref q4, .ref q5, .ref q6, .ref q7, .ref q8, .ref q9, .ref q10, .long 0, .int 0, .ref q11, .ref q12, .ref q13, .ref q14, .ref q15, .ref q16, .int 0, .null, .null, .int 0]) rfl rfl 19 (by decide) (hts _ q_827) (fun _ h9 => h9) rfl hin rfl (by decide +kernel) rfl rfl (Nat.le_of_ble_eq_true rfl) dX6_init_130 (fun H locs hR hS => ?_)
  have hR : WW D vwCl A0 _ (cvL [(17, 0), (16, 0), (15, 0), (14, 0), (13, 0), (12, 0), (11, 0), (10, 0), (9, 0), (8, 0), (7, 0), (6, 0), (5, 0), (4, 0), (3, 0), (2, 0), (1, 0), (0, 0)]) (ctU _ 0 0 (.inr (7, [.ref q1, .ref q2, .ref q3, .ref q4, .ref q5, .ref q6, .ref q7, .ref q8, .ref q9, .ref q10, .long 0, .int 0, .ref q11, .ref q12, .ref q13, .ref q14, .ref q15, .ref q16, .int 0, .ref q17, .null, .int 0]))) H := hR
  refine lv_aload_n hx hb dX6_init_133 rfl (lv_at hl 0 rfl) ?_
  refine lv_iconst (v := 3) hx hb dX6_init_134 (by decide) ?_
  refine cn_z 18 0 hx hb (hts _ q_875) hK.1 hR hS hA 3 (by decide) rfl (Nat.le_of_ble_eq_true rfl) (Nat.le_of_ble_eq_true rfl) (Nat.le_of_ble_eq_true rfl) (by decide) dX6_init_135 (fun q18 H hAq hR hS => ?_)
  refine ww_putF (D := D) (ci := 7) (C := RX6) (T := TX6) (N := 22) (ty := .array .boolean) hx hb hts iuX6 tyX6 tyX6_ok nmX6 hown hK.1 hR hS (f := 0) (i := 0) (by decide) (fs := [.ref q1, .ref q2, .ref q3, .ref q4, .ref q5, .ref q6, .ref q7, .ref q8, .ref q9, .ref q10, .long 0, .int 0, .ref q11, .ref q12, .ref q13, .ref q14, .ref q15, .ref q16, .int 0, .ref q17, .null, .int 0]) rfl rfl 20 (by decide) (hts _ q_828) (fun _ h9 => h9) rfl hin rfl (by decide +kernel) rfl rfl (Nat.le_of_ble_eq_true rfl) dX6_init_137 (fun H locs hR hS => ?_)
  have hR : WW D vwCl A0 _ (cvL [(18, 0), (17, 0), (16, 0), (15, 0), (14, 0), (13, 0), (12, 0), (11, 0), (10, 0), (9, 0), (8, 0), (7, 0), (6, 0), (5, 0), (4, 0), (3, 0), (2, 0), (1, 0), (0, 0)]) (ctU _ 0 0 (.inr (7, [.ref q1, .ref q2, .ref q3, .ref q4, .ref q5, .ref q6, .ref q7, .ref q8, .ref q9, .ref q10, .long 0, .int 0, .ref q11, .ref q12, .ref q13, .ref q14, .ref q15, .ref q16, .int 0, .ref q17, .ref q18, .int 0]))) H := hR
  refine lv_iconst (v := 0) hx hb dX6_init_140 (by decide) ?_
  refine lv_istore_n (lv' := [(1, .int 0), (0, .ref a)]) hx hb dX6_init_141 rfl hl (by decide) rfl (fun ls hl => ?_)
  refine lv_iload_n hx hb dX6_init_142 rfl (lv_at hl 0 rfl) ?_
  refine lv_iconst (v := 3) hx hb dX6_init_143 (by decide) ?_
  refine lv_icmp_ge (tgt := 161) hx hb dX6_init_144 (by decide) (fun c19 => absurd c19 (by decide)) (fun c19 => ?_)
  refine lv_aload_n hx hb dX6_init_147 rfl (lv_at hl 1 rfl) ?_
  refine va_get (D := D) (ci := 7) (C := RX6) (T := TX6) (N := 22) hx hb hts iuX6 hown hK.1 (WW_one hR (f := 0) (i := 0) (by decide)) 0 (fs := [.ref q1, .ref q2, .ref q3, .ref q4, .ref q5, .ref q6, .ref q7, .ref q8, .ref q9, .ref q10, .long 0, .int 0, .ref q11, .ref q12, .ref q13, .ref q14, .ref q15, .ref q16, .int 0, .ref q17, .ref q18, .int 0]) rfl rfl 0 (by decide) (hts _ q_808) (fun _ h9 => h9) rfl dX6_init_148 ?_
  refine lv_iload_n hx hb dX6_init_151 rfl (lv_at hl 0 rfl) ?_
  refine lv_bipush (v := 100) hx hb dX6_init_152 (by decide) ?_
  refine ww_iast hx hb hK.1 hR hS 0 (f := 1) (j := 0) (by decide) (cA := dA 0) (n := 3) (fa := fun _ => 0) rfl rfl (show ¬ ((0 : Int32) < 0 ∨ 3 ≤ (0 : Int32).toNatClampNeg) by decide) dX6_init_154 (fun H locs hR hS => ?_)
  have hR : WW D vwCl A0 _ (cvL [(18, 0), (17, 0), (16, 0), (15, 0), (14, 0), (13, 0), (12, 0), (11, 0), (10, 0), (9, 0), (8, 0), (7, 0), (6, 0), (5, 0), (4, 0), (3, 0), (2, 0), (1, 0), (0, 0)]) (ctU _ 1 0 (.inl (dA 0, 3, .inl (upd (fun _ => 0) 0 100)))) H := hR
  refine lv_iinc (v := 1) (lv' := [(1, .int 1), (0, .ref a)]) hx hb dX6_init_155 hl (k := 0) rfl (by decide) (by decide) rfl (fun ls hl => ?_)
  refine lv_goto (tgt := 142) hx hb dX6_init_158 (by decide) ?_
  refine lv_iload_n hx hb dX6_init_142 rfl (lv_at hl 0 rfl) ?_
  refine lv_iconst (v := 3) hx hb dX6_init_143 (by decide) ?_
  refine lv_icmp_ge (tgt := 161) hx hb dX6_init_144 (by decide) (fun c20 => absurd c20 (by decide)) (fun c20 => ?_)
  refine lv_aload_n hx hb dX6_init_147 rfl (lv_at hl 1 rfl) ?_
  refine va_get (D := D) (ci := 7) (C := RX6) (T := TX6) (N := 22) hx hb hts iuX6 hown hK.1 (WW_one hR (f := 0) (i := 0) (by decide)) 0 (fs := [.ref q1, .ref q2, .ref q3, .ref q4, .ref q5, .ref q6, .ref q7, .ref q8, .ref q9, .ref q10, .long 0, .int 0, .ref q11, .ref q12, .ref q13, .ref q14, .ref q15, .ref q16, .int 0, .ref q17, .ref q18, .int 0]) rfl rfl 0 (by decide) (hts _ q_808) (fun _ h9 => h9) rfl dX6_init_148 ?_
  refine lv_iload_n hx hb dX6_init_151 rfl (lv_at hl 0 rfl) ?_
  refine lv_bipush (v := 100) hx hb dX6_init_152 (by decide) ?_
  refine ww_iast hx hb hK.1 hR hS 0 (f := 1) (j := 0) (by decide) (cA := dA 0) (n := 3) (fa := upd (fun _ => 0) 0 100) rfl rfl (show ¬ ((1 : Int32) < 0 ∨ 3 ≤ (1 : Int32).toNatClampNeg) by decide) dX6_init_154 (fun H locs hR hS => ?_)
  have hR : WW D vwCl A0 _ (cvL [(18, 0), (17, 0), (16, 0), (15, 0), (14, 0), (13, 0), (12, 0), (11, 0), (10, 0), (9, 0), (8, 0), (7, 0), (6, 0), (5, 0), (4, 0), (3, 0), (2, 0), (1, 0), (0, 0)]) (ctU _ 1 0 (.inl (dA 0, 3, .inl (upd (upd (fun _ => 0) 0 100) 1 100)))) H := hR
  refine lv_iinc (v := 2) (lv' := [(1, .int 2), (0, .ref a)]) hx hb dX6_init_155 hl (k := 0) rfl (by decide) (by decide) rfl (fun ls hl => ?_)
  refine lv_goto (tgt := 142) hx hb dX6_init_158 (by decide) ?_
  refine lv_iload_n hx hb dX6_init_142 rfl (lv_at hl 0 rfl) ?_
  refine lv_iconst (v := 3) hx hb dX6_init_143 (by decide) ?_
  refine lv_icmp_ge (tgt := 161) hx hb dX6_init_144 (by decide) (fun c21 => absurd c21 (by decide)) (fun c21 => ?_)
  refine lv_aload_n hx hb dX6_init_147 rfl (lv_at hl 1 rfl) ?_
  refine va_get (D := D) (ci := 7) (C := RX6) (T := TX6) (N := 22) hx hb hts iuX6 hown hK.1 (WW_one hR (f := 0) (i := 0) (by decide)) 0 (fs := [.ref q1, .ref q2, .ref q3, .ref q4, .ref q5, .ref q6, .ref q7, .ref q8, .ref q9, .ref q10, .long 0, .int 0, .ref q11, .ref q12, .ref q13, .ref q14, .ref q15, .ref q16, .int 0, .ref q17, .ref q18, .int 0]) rfl rfl 0 (by decide) (hts _ q_808) (fun _ h9 => h9) rfl dX6_init_148 ?_
  refine lv_iload_n hx hb dX6_init_151 rfl (lv_at hl 0 rfl) ?_
  refine lv_bipush (v := 100) hx hb dX6_init_152 (by decide) ?_
  refine ww_iast hx hb hK.1 hR hS 0 (f := 1) (j := 0) (by decide) (cA := dA 0) (n := 3) (fa := upd (upd (fun _ => 0) 0 100) 1 100) rfl rfl (show ¬ ((2 : Int32) < 0 ∨ 3 ≤ (2 : Int32).toNatClampNeg) by decide) dX6_init_154 (fun H locs hR hS => ?_)
  have hR : WW D vwCl A0 _ (cvL [(18, 0), (17, 0), (16, 0), (15, 0), (14, 0), (13, 0), (12, 0), (11, 0), (10, 0), (9, 0), (8, 0), (7, 0), (6, 0), (5, 0), (4, 0), (3, 0), (2, 0), (1, 0), (0, 0)]) (ctU _ 1 0 (.inl (dA 0, 3, .inl (upd (upd (upd (fun _ => 0) 0 100) 1 100) 2 100)))) H := hR
  refine lv_iinc (v := 3) (lv' := [(1, .int 3), (0, .ref a)]) hx hb dX6_init_155 hl (k := 0) rfl (by decide) (by decide) rfl (fun ls hl => ?_)
  refine lv_goto (tgt := 142) hx hb dX6_init_158 (by decide) ?_
  refine lv_iload_n hx hb dX6_init_142 rfl (lv_at hl 0 rfl) ?_
  refine lv_iconst (v := 3) hx hb dX6_init_143 (by decide) ?_
  refine lv_icmp_ge (tgt := 161) hx hb dX6_init_144 (by decide) (fun c22 => ?_) (fun c22 => absurd (by decide) c22)
  refine lv_aload_n hx hb dX6_init_161 rfl (lv_at hl 1 rfl) ?_
  refine va_get (D := D) (ci := 7) (C := RX6) (T := TX6) (N := 22) hx hb hts iuX6 hown hK.1 (WW_one hR (f := 0) (i := 0) (by decide)) 0 (fs := [.ref q1, .ref q2, .ref q3, .ref q4, .ref q5, .ref q6, .ref q7, .ref q8, .ref q9, .ref q10, .long 0, .int 0, .ref q11, .ref q12, .ref q13, .ref q14, .ref q15, .ref q16, .int 0, .ref q17, .ref q18, .int 0]) rfl rfl 2 (by decide) (hts _ q_810) (fun _ h9 => h9) rfl dX6_init_162 ?_
  refine lv_iconst (v := 0) hx hb dX6_init_165 (by decide) ?_
  refine lv_bipush (v := 100) hx hb dX6_init_166 (by decide) ?_
  refine ww_iast hx hb hK.1 hR hS 0 (f := 3) (j := 0) (by decide) (cA := dA 0) (n := 8) (fa := fun _ => 0) rfl rfl (show ¬ ((0 : Int32) < 0 ∨ 8 ≤ (0 : Int32).toNatClampNeg) by decide) dX6_init_168 (fun H locs hR hS => ?_)
  have hR : WW D vwCl A0 _ (cvL [(18, 0), (17, 0), (16, 0), (15, 0), (14, 0), (13, 0), (12, 0), (11, 0), (10, 0), (9, 0), (8, 0), (7, 0), (6, 0), (5, 0), (4, 0), (3, 0), (2, 0), (1, 0), (0, 0)]) (ctU _ 3 0 (.inl (dA 0, 8, .inl (upd (fun _ => 0) 0 100)))) H := hR
  refine lv_aload_n hx hb dX6_init_169 rfl (lv_at hl 1 rfl) ?_
  refine va_get (D := D) (ci := 7) (C := RX6) (T := TX6) (N := 22) hx hb hts iuX6 hown hK.1 (WW_one hR (f := 0) (i := 0) (by decide)) 0 (fs := [.ref q1, .ref q2, .ref q3, .ref q4, .ref q5, .ref q6, .ref q7, .ref q8, .ref q9, .ref q10, .long 0, .int 0, .ref q11, .ref q12, .ref q13, .ref q14, .ref q15, .ref q16, .int 0, .ref q17, .ref q18, .int 0]) rfl rfl 2 (by decide) (hts _ q_810) (fun _ h9 => h9) rfl dX6_init_170 ?_
  refine lv_iconst (v := 4) hx hb dX6_init_173 (by decide) ?_
  refine lv_bipush (v := 100) hx hb dX6_init_174 (by decide) ?_
  refine ww_iast hx hb hK.1 hR hS 0 (f := 3) (j := 0) (by decide) (cA := dA 0) (n := 8) (fa := upd (fun _ => 0) 0 100) rfl rfl (show ¬ ((4 : Int32) < 0 ∨ 8 ≤ (4 : Int32).toNatClampNeg) by decide) dX6_init_176 (fun H locs hR hS => ?_)
  have hR : WW D vwCl A0 _ (cvL [(18, 0), (17, 0), (16, 0), (15, 0), (14, 0), (13, 0), (12, 0), (11, 0), (10, 0), (9, 0), (8, 0), (7, 0), (6, 0), (5, 0), (4, 0), (3, 0), (2, 0), (1, 0), (0, 0)]) (ctU _ 3 0 (.inl (dA 0, 8, .inl (upd (upd (fun _ => 0) 0 100) 4 100)))) H := hR
  refine lv_iconst (v := 0) hx hb dX6_init_177 (by decide) ?_
  refine lv_istore_n (lv' := [(1, .int 0), (0, .ref a)]) hx hb dX6_init_178 rfl hl (by decide) rfl (fun ls hl => ?_)
  refine lv_iload_n hx hb dX6_init_179 rfl (lv_at hl 0 rfl) ?_
  refine lv_iconst (v := 5) hx hb dX6_init_180 (by decide) ?_
  refine lv_icmp_ge (tgt := 197) hx hb dX6_init_181 (by decide) (fun c23 => absurd c23 (by decide)) (fun c23 => ?_)
  refine lv_aload_n hx hb dX6_init_184 rfl (lv_at hl 1 rfl) ?_
  refine va_get (D := D) (ci := 7) (C := RX6) (T := TX6) (N := 22) hx hb hts iuX6 hown hK.1 (WW_one hR (f := 0) (i := 0) (by decide)) 0 (fs := [.ref q1, .ref q2, .ref q3, .ref q4, .ref q5, .ref q6, .ref q7, .ref q8, .ref q9, .ref q10, .long 0, .int 0, .ref q11, .ref q12, .ref q13, .ref q14, .ref q15, .ref q16, .int 0, .ref q17, .ref q18, .int 0]) rfl rfl 8 (by decide) (hts _ q_816) (fun _ h9 => h9) rfl dX6_init_185 ?_
  refine lv_iload_n hx hb dX6_init_188 rfl (lv_at hl 0 rfl) ?_
  refine lv_iconst (v := (-1)) hx hb dX6_init_189 (by decide) ?_
  refine ww_iast hx hb hK.1 hR hS 0 (f := 9) (j := 0) (by decide) (cA := dA 0) (n := 5) (fa := fun _ => 0) rfl rfl (show ¬ ((0 : Int32) < 0 ∨ 5 ≤ (0 : Int32).toNatClampNeg) by decide) dX6_init_190 (fun H locs hR hS => ?_)
  have hR : WW D vwCl A0 _ (cvL [(18, 0), (17, 0), (16, 0), (15, 0), (14, 0), (13, 0), (12, 0), (11, 0), (10, 0), (9, 0), (8, 0), (7, 0), (6, 0), (5, 0), (4, 0), (3, 0), (2, 0), (1, 0), (0, 0)]) (ctU _ 9 0 (.inl (dA 0, 5, .inl (upd (fun _ => 0) 0 (-1))))) H := hR
  refine lv_iinc (v := 1) (lv' := [(1, .int 1), (0, .ref a)]) hx hb dX6_init_191 hl (k := 0) rfl (by decide) (by decide) rfl (fun ls hl => ?_)
  refine lv_goto (tgt := 179) hx hb dX6_init_194 (by decide) ?_
  refine lv_iload_n hx hb dX6_init_179 rfl (lv_at hl 0 rfl) ?_
  refine lv_iconst (v := 5) hx hb dX6_init_180 (by decide) ?_
  refine lv_icmp_ge (tgt := 197) hx hb dX6_init_181 (by decide) (fun c24 => absurd c24 (by decide)) (fun c24 => ?_)
  refine lv_aload_n hx hb dX6_init_184 rfl (lv_at hl 1 rfl) ?_
  refine va_get (D := D) (ci := 7) (C := RX6) (T := TX6) (N := 22) hx hb hts iuX6 hown hK.1 (WW_one hR (f := 0) (i := 0) (by decide)) 0 (fs := [.ref q1, .ref q2, .ref q3, .ref q4, .ref q5, .ref q6, .ref q7, .ref q8, .ref q9, .ref q10, .long 0, .int 0, .ref q11, .ref q12, .ref q13, .ref q14, .ref q15, .ref q16, .int 0, .ref q17, .ref q18, .int 0]) rfl rfl 8 (by decide) (hts _ q_816) (fun _ h9 => h9) rfl dX6_init_185 ?_
  refine lv_iload_n hx hb dX6_init_188 rfl (lv_at hl 0 rfl) ?_
  refine lv_iconst (v := (-1)) hx hb dX6_init_189 (by decide) ?_
  refine ww_iast hx hb hK.1 hR hS 0 (f := 9) (j := 0) (by decide) (cA := dA 0) (n := 5) (fa := upd (fun _ => 0) 0 (-1)) rfl rfl (show ¬ ((1 : Int32) < 0 ∨ 5 ≤ (1 : Int32).toNatClampNeg) by decide) dX6_init_190 (fun H locs hR hS => ?_)
  have hR : WW D vwCl A0 _ (cvL [(18, 0), (17, 0), (16, 0), (15, 0), (14, 0), (13, 0), (12, 0), (11, 0), (10, 0), (9, 0), (8, 0), (7, 0), (6, 0), (5, 0), (4, 0), (3, 0), (2, 0), (1, 0), (0, 0)]) (ctU _ 9 0 (.inl (dA 0, 5, .inl (upd (upd (fun _ => 0) 0 (-1)) 1 (-1))))) H := hR
  refine lv_iinc (v := 2) (lv' := [(1, .int 2), (0, .ref a)]) hx hb dX6_init_191 hl (k := 0) rfl (by decide) (by decide) rfl (fun ls hl => ?_)
  refine lv_goto (tgt := 179) hx hb dX6_init_194 (by decide) ?_
  refine lv_iload_n hx hb dX6_init_179 rfl (lv_at hl 0 rfl) ?_
  refine lv_iconst (v := 5) hx hb dX6_init_180 (by decide) ?_
  refine lv_icmp_ge (tgt := 197) hx hb dX6_init_181 (by decide) (fun c25 => absurd c25 (by decide)) (fun c25 => ?_)
  refine lv_aload_n hx hb dX6_init_184 rfl (lv_at hl 1 rfl) ?_
  refine va_get (D := D) (ci := 7) (C := RX6) (T := TX6) (N := 22) hx hb hts iuX6 hown hK.1 (WW_one hR (f := 0) (i := 0) (by decide)) 0 (fs := [.ref q1, .ref q2, .ref q3, .ref q4, .ref q5, .ref q6, .ref q7, .ref q8, .ref q9, .ref q10, .long 0, .int 0, .ref q11, .ref q12, .ref q13, .ref q14, .ref q15, .ref q16, .int 0, .ref q17, .ref q18, .int 0]) rfl rfl 8 (by decide) (hts _ q_816) (fun _ h9 => h9) rfl dX6_init_185 ?_
  refine lv_iload_n hx hb dX6_init_188 rfl (lv_at hl 0 rfl) ?_
  refine lv_iconst (v := (-1)) hx hb dX6_init_189 (by decide) ?_
  refine ww_iast hx hb hK.1 hR hS 0 (f := 9) (j := 0) (by decide) (cA := dA 0) (n := 5) (fa := upd (upd (fun _ => 0) 0 (-1)) 1 (-1)) rfl rfl (show ¬ ((2 : Int32) < 0 ∨ 5 ≤ (2 : Int32).toNatClampNeg) by decide) dX6_init_190 (fun H locs hR hS => ?_)
  have hR : WW D vwCl A0 _ (cvL [(18, 0), (17, 0), (16, 0), (15, 0), (14, 0), (13, 0), (12, 0), (11, 0), (10, 0), (9, 0), (8, 0), (7, 0), (6, 0), (5, 0), (4, 0), (3, 0), (2, 0), (1, 0), (0, 0)]) (ctU _ 9 0 (.inl (dA 0, 5, .inl (upd (upd (upd (fun _ => 0) 0 (-1)) 1 (-1)) 2 (-1))))) H := hR
  refine lv_iinc (v := 3) (lv' := [(1, .int 3), (0, .ref a)]) hx hb dX6_init_191 hl (k := 0) rfl (by decide) (by decide) rfl (fun ls hl => ?_)
  refine lv_goto (tgt := 179) hx hb dX6_init_194 (by decide) ?_
  refine lv_iload_n hx hb dX6_init_179 rfl (lv_at hl 0 rfl) ?_
  refine lv_iconst (v := 5) hx hb dX6_init_180 (by decide) ?_
  refine lv_icmp_ge (tgt := 197) hx hb dX6_init_181 (by decide) (fun c26 => absurd c26 (by decide)) (fun c26 => ?_)
  refine lv_aload_n hx hb dX6_init_184 rfl (lv_at hl 1 rfl) ?_
  refine va_get (D := D) (ci := 7) (C := RX6) (T := TX6) (N := 22) hx hb hts iuX6 hown hK.1 (WW_one hR (f := 0) (i := 0) (by decide)) 0 (fs := [.ref q1, .ref q2, .ref q3, .ref q4, .ref q5, .ref q6, .ref q7, .ref q8, .ref q9, .ref q10, .long 0, .int 0, .ref q11, .ref q12, .ref q13, .ref q14, .ref q15, .ref q16, .int 0, .ref q17, .ref q18, .int 0]) rfl rfl 8 (by decide) (hts _ q_816) (fun _ h9 => h9) rfl dX6_init_185 ?_
  refine lv_iload_n hx hb dX6_init_188 rfl (lv_at hl 0 rfl) ?_
  refine lv_iconst (v := (-1)) hx hb dX6_init_189 (by decide) ?_
  refine ww_iast hx hb hK.1 hR hS 0 (f := 9) (j := 0) (by decide) (cA := dA 0) (n := 5) (fa := upd (upd (upd (fun _ => 0) 0 (-1)) 1 (-1)) 2 (-1)) rfl rfl (show ¬ ((3 : Int32) < 0 ∨ 5 ≤ (3 : Int32).toNatClampNeg) by decide) dX6_init_190 (fun H locs hR hS => ?_)
  have hR : WW D vwCl A0 _ (cvL [(18, 0), (17, 0), (16, 0), (15, 0), (14, 0), (13, 0), (12, 0), (11, 0), (10, 0), (9, 0), (8, 0), (7, 0), (6, 0), (5, 0), (4, 0), (3, 0), (2, 0), (1, 0), (0, 0)]) (ctU _ 9 0 (.inl (dA 0, 5, .inl (upd (upd (upd (upd (fun _ => 0) 0 (-1)) 1 (-1)) 2 (-1)) 3 (-1))))) H := hR
  refine lv_iinc (v := 4) (lv' := [(1, .int 4), (0, .ref a)]) hx hb dX6_init_191 hl (k := 0) rfl (by decide) (by decide) rfl (fun ls hl => ?_)
  refine lv_goto (tgt := 179) hx hb dX6_init_194 (by decide) ?_
  refine lv_iload_n hx hb dX6_init_179 rfl (lv_at hl 0 rfl) ?_
  refine lv_iconst (v := 5) hx hb dX6_init_180 (by decide) ?_
  refine lv_icmp_ge (tgt := 197) hx hb dX6_init_181 (by decide) (fun c27 => absurd c27 (by decide)) (fun c27 => ?_)
  refine lv_aload_n hx hb dX6_init_184 rfl (lv_at hl 1 rfl) ?_
  refine va_get (D := D) (ci := 7) (C := RX6) (T := TX6) (N := 22) hx hb hts iuX6 hown hK.1 (WW_one hR (f := 0) (i := 0) (by decide)) 0 (fs := [.ref q1, .ref q2, .ref q3, .ref q4, .ref q5, .ref q6, .ref q7, .ref q8, .ref q9, .ref q10, .long 0, .int 0, .ref q11, .ref q12, .ref q13, .ref q14, .ref q15, .ref q16, .int 0, .ref q17, .ref q18, .int 0]) rfl rfl 8 (by decide) (hts _ q_816) (fun _ h9 => h9) rfl dX6_init_185 ?_
  refine lv_iload_n hx hb dX6_init_188 rfl (lv_at hl 0 rfl) ?_
  refine lv_iconst (v := (-1)) hx hb dX6_init_189 (by decide) ?_
  refine ww_iast hx hb hK.1 hR hS 0 (f := 9) (j := 0) (by decide) (cA := dA 0) (n := 5) (fa := upd (upd (upd (upd (fun _ => 0) 0 (-1)) 1 (-1)) 2 (-1)) 3 (-1)) rfl rfl (show ¬ ((4 : Int32) < 0 ∨ 5 ≤ (4 : Int32).toNatClampNeg) by decide) dX6_init_190 (fun H locs hR hS => ?_)
  have hR : WW D vwCl A0 _ (cvL [(18, 0), (17, 0), (16, 0), (15, 0), (14, 0), (13, 0), (12, 0), (11, 0), (10, 0), (9, 0), (8, 0), (7, 0), (6, 0), (5, 0), (4, 0), (3, 0), (2, 0), (1, 0), (0, 0)]) (ctU _ 9 0 (.inl (dA 0, 5, .inl (upd (upd (upd (upd (upd (fun _ => 0) 0 (-1)) 1 (-1)) 2 (-1)) 3 (-1)) 4 (-1))))) H := hR
  refine lv_iinc (v := 5) (lv' := [(1, .int 5), (0, .ref a)]) hx hb dX6_init_191 hl (k := 0) rfl (by decide) (by decide) rfl (fun ls hl => ?_)
  refine lv_goto (tgt := 179) hx hb dX6_init_194 (by decide) ?_
  refine lv_iload_n hx hb dX6_init_179 rfl (lv_at hl 0 rfl) ?_
  refine lv_iconst (v := 5) hx hb dX6_init_180 (by decide) ?_
  refine lv_icmp_ge (tgt := 197) hx hb dX6_init_181 (by decide) (fun c28 => ?_) (fun c28 => absurd (by decide) c28)
  refine retn_v (u := _) (cv' := cvM tau0) (ctF := fun u => ctM dA u tau0) hC ?_ hR ?_ ?_ hS dX6_init_197
  · rfl
  · intro f i h
    match f, h with
    | 0, h => have h : i = 0 := h; subst h; decide
    | 1, h => have h : i = 0 := h; subst h; decide
    | 2, h => have h : i = 0 := h; subst h; decide
    | 3, h => have h : i = 0 := h; subst h; decide
    | 4, h => have h : i = 0 := h; subst h; decide
    | 5, h => have h : i = 0 := h; subst h; decide
    | 6, h => have h : i = 0 := h; subst h; decide
    | 7, h => have h : i = 0 := h; subst h; decide
    | 8, h => have h : i = 0 := h; subst h; decide
    | 9, h => have h : i = 0 := h; subst h; decide
    | 10, h => have h : i = 0 := h; subst h; decide
    | 11, h => have h : i = 0 := h; subst h; decide
    | 12, h => have h : i = 0 := h; subst h; decide
    | 13, h => have h : i = 0 := h; subst h; decide
    | 14, h => have h : i = 0 := h; subst h; decide
    | 15, h => have h : i = 0 := h; subst h; decide
    | 16, h => have h : i = 0 := h; subst h; decide
    | 17, h => have h : i = 0 := h; subst h; decide
    | 18, h => have h : i = 0 := h; subst h; decide
    | f + 19, h => exact h.elim
  · intro f i h
    match f, h with
    | 0, h => have h : i = 0 := h; subst h; exact vE_rfl rfl
    | 1, h =>
      have h : i = 0 := h
      subst h
      exact vE_i (fun j hj => by
        match j, hj with
        | 0, _ => rfl
        | 1, _ => rfl
        | 2, _ => rfl
        | j + 3, h => exact absurd h (by omega))
    | 2, h => have h : i = 0 := h; subst h; exact vE_rfl rfl
    | 3, h =>
      have h : i = 0 := h
      subst h
      exact vE_i (fun j hj => by
        match j, hj with
        | 0, _ => rfl
        | 1, _ => rfl
        | 2, _ => rfl
        | 3, _ => rfl
        | 4, _ => rfl
        | 5, _ => rfl
        | 6, _ => rfl
        | 7, _ => rfl
        | j + 8, h => exact absurd h (by omega))
    | 4, h => have h : i = 0 := h; subst h; exact vE_rfl rfl
    | 5, h => have h : i = 0 := h; subst h; exact vE_rfl rfl
    | 6, h => have h : i = 0 := h; subst h; exact vE_rfl rfl
    | 7, h => have h : i = 0 := h; subst h; exact vE_rfl rfl
    | 8, h => have h : i = 0 := h; subst h; exact vE_rfl rfl
    | 9, h =>
      have h : i = 0 := h
      subst h
      exact vE_i (fun j hj => by
        match j, hj with
        | 0, _ => rfl
        | 1, _ => rfl
        | 2, _ => rfl
        | 3, _ => rfl
        | 4, _ => rfl
        | j + 5, h => exact absurd h (by omega))
    | 10, h => have h : i = 0 := h; subst h; exact vE_rfl rfl
    | 11, h => have h : i = 0 := h; subst h; exact vE_rfl rfl
    | 12, h => have h : i = 0 := h; subst h; exact vE_rfl rfl
    | 13, h => have h : i = 0 := h; subst h; exact vE_rfl rfl
    | 14, h => have h : i = 0 := h; subst h; exact vE_rfl rfl
    | 15, h => have h : i = 0 := h; subst h; exact vE_rfl rfl
    | 16, h => have h : i = 0 := h; subst h; exact vE_rfl rfl
    | 17, h => have h : i = 0 := h; subst h; exact vE_rfl rfl
    | 18, h => have h : i = 0 := h; subst h; exact vE_rfl rfl
    | f + 19, h => exact h.elim
