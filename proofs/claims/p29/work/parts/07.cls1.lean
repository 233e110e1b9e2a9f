def fX5_dividedUp (σ : St) (a1 : Int32) (a2 : Int32) : Option (Int32) := if 1 ≤ a2 then gd (¬ a2 = 0) (some (((a1 + a2) - 1) / a2)) else some (0)
set_option maxHeartbeats 4000000 in
set_option maxRecDepth 100000 in
theorem mX5_dividedUp (l : Launch) (D : va_G) (dA : Nat → ClassId) (ad : Nat → Nat → Nat) (σ : St) (sz : Nat) (a1 : Int32) (a2 : Int32) (r : Int32) (hf : fX5_dividedUp σ a1 a2 = some r) : Met l yX5_dividedUp (WSy yX5_dividedUp cX5_dividedUp 2 (some .int)) ({ frames := 0, cells := 0, slots := 0, locals := 0 } : Room) (va_Pc [.int a1, .int a2] (fun U => U.heap.size = sz ∧ HC D dA (fun _ => True) ad σ U.heap ∧ KS D dA U)) (va_Qi (fun (x : Int32) (_ : Unit) => x = r) (fun _ t => HC D dA (WA ad (cvC σ) sz) ad σ t.heap) (WA ad (cvC σ) sz)) 0 0 (WA ad (cvC σ) sz) := by
  refine met_of (by decide) (Nat.le_of_ble_eq_true rfl) ?_
  intro p e s m below meth c ls hC hB hl
  obtain ⟨rfl, hR, hK⟩ := hB
  have hA : ∀ q : Nat, s.heap.size ≤ q → WA ad (cvC σ) s.heap.size q := fun q h => Or.inr h
  have hR := WW_fit (B := WA ad (cvC σ) s.heap.size) hR (fun f i h => WA_in h)
  have hS : va_S (WA ad (cvC σ) s.heap.size) s.heap s.heap [] := va_S.rf
  generalize WA ad (cvC σ) s.heap.size = A0 at hA hR hS ⊢
  have hC : CTX p s m _ meth c cX5_dividedUp 2 RX5 (some .int) := hC
  obtain ⟨hx, hb, hml, hown, hts, hr, hlk⟩ := id hC
  have hl : lv_has ls 2 [(0, .int a1), (1, .int a2)] := hl
  unfold fX5_dividedUp at hf
  refine lv_iload_n hx hb dX5_dividedUp_0 rfl (lv_at hl 1 rfl) ?_
  refine lv_iconst (v := 1) hx hb dX5_dividedUp_1 (by decide) ?_
  refine lv_icmp_ge (tgt := 9) hx hb dX5_dividedUp_2 (by decide) (fun c1 => ?_) (fun c1 => ?_)
  · have hf := if_of_pos hf c1
    refine lv_iload_n hx hb dX5_dividedUp_9 rfl (lv_at hl 0 rfl) ?_
    refine lv_iload_n hx hb dX5_dividedUp_10 rfl (lv_at hl 1 rfl) ?_
    refine lv_iadd hx hb dX5_dividedUp_11 ?_
    refine lv_iconst (v := 1) hx hb dX5_dividedUp_12 (by decide) ?_
    refine lv_isub hx hb dX5_dividedUp_13 ?_
    refine lv_iload_n hx hb dX5_dividedUp_14 rfl (lv_at hl 1 rfl) ?_
    obtain ⟨g2, hf⟩ := gd_of hf
    refine lv_idiv hx hb dX5_dividedUp_15 g2 ?_
    cases hf
    exact ret_i hC hR hS dX5_dividedUp_16
  · have hf := if_of_neg hf c1
    refine lv_iconst (v := 0) hx hb dX5_dividedUp_5 (by decide) ?_
    refine lv_goto (tgt := 16) hx hb dX5_dividedUp_6 (by decide) ?_
    cases hf
    exact ret_i hC hR hS dX5_dividedUp_16
def fX5_worthOf (σ : St) (a1 : Int32) (a2 : Int32) : Option (Int64) := gd (vin a1 2) (kst (gI σ 11 a1.toNatClampNeg (3 : Int32).toNatClampNeg) (fun x2 => some ((((Int32.toInt64 a2) * (Int32.toInt64 x2)) * (Int32.toInt64 (100 - (gI σ 6 a1.toNatClampNeg 0)))) / 100)))
set_option maxHeartbeats 4000000 in
set_option maxRecDepth 100000 in
theorem mX5_worthOf (l : Launch) (D : va_G) (dA : Nat → ClassId) (ad : Nat → Nat → Nat) (σ : St) (sz : Nat) (a1 : Int32) (a2 : Int32) (r : Int64) (hf : fX5_worthOf σ a1 a2 = some r) : Met l yX5_worthOf (WSy yX5_worthOf cX5_worthOf 4 (some .long)) ({ frames := 0, cells := 0, slots := 0, locals := 0 } : Room) (va_Pc [.ref (ad 0 0), .int a1, .int a2] (fun U => U.heap.size = sz ∧ HC D dA (fun _ => True) ad σ U.heap ∧ KS D dA U)) (va_Ql (fun (x : Int64) (_ : Unit) => x = r) (fun _ t => HC D dA (WA ad (cvC σ) sz) ad σ t.heap) (WA ad (cvC σ) sz)) 0 0 (WA ad (cvC σ) sz) := by
  refine met_of (by decide) (Nat.le_of_ble_eq_true rfl) ?_
  intro p e s m below meth c ls hC hB hl
  obtain ⟨rfl, hR, hK⟩ := hB
  have hA : ∀ q : Nat, s.heap.size ≤ q → WA ad (cvC σ) s.heap.size q := fun q h => Or.inr h
  have hR := WW_fit (B := WA ad (cvC σ) s.heap.size) hR (fun f i h => WA_in h)
  have hS : va_S (WA ad (cvC σ) s.heap.size) s.heap s.heap [] := va_S.rf
  generalize WA ad (cvC σ) s.heap.size = A0 at hA hR hS ⊢
  have hC : CTX p s m _ meth c cX5_worthOf 4 RX5 (some .long) := hC
  obtain ⟨hx, hb, hml, hown, hts, hr, hlk⟩ := id hC
  have hl : lv_has ls 4 [(0, .ref (ad 0 0)), (1, .int a1), (2, .int a2)] := hl
  unfold fX5_worthOf at hf
  refine lv_aload_n hx hb dX5_worthOf_0 rfl (lv_at hl 0 rfl) ?_
  refine va_get (D := D) (ci := 6) (C := RX5) (T := TX5) (N := 8) hx hb hts iuX5 hown hK.1 (WW_one hR (f := 0) (i := 0) rfl) 0 rfl rfl 2 (by decide) (hts _ q_166) (fun _ h9 => h9) rfl dX5_worthOf_1 ?_
  refine lv_iload_n hx hb dX5_worthOf_4 rfl (lv_at hl 1 rfl) ?_
  obtain ⟨g1, hf⟩ := gd_of hf
  refine va_aldq (C := RX1) hx hb hK.1 (WW_one hR (f := 9) (i := 0) rfl) 0 5 rfl rfl g1 dX5_worthOf_5 ?_
  refine va_getN (D := D) (ci := 2) (C := RX1) (T := TX1) (N := 2) hx hb hts iuX1 hown hK.1 (WW_one hR (f := 10) (i := a1.toNatClampNeg) (vin_lt g1)) 0 rfl rfl 0 (by decide) (nw_f hK.2 q_156) (fun _ h9 => h9) rfl dX5_worthOf_6 ?_
  refine lv_iconst (v := 3) hx hb dX5_worthOf_9 (by decide) ?_
  refine va_iald hx hb hK.1 (WW_one hR (f := 11) (i := a1.toNatClampNeg) (vin_lt g1)) 0 0 rfl rfl (by decide : vin 3 4) dX5_worthOf_10 ?_
  refine lv_topi (fun x2 hx2 => ?_)
  have hf := kst_eq hx2 hf
  refine lv_istore_n (lv' := [(3, .int x2), (0, .ref (ad 0 0)), (1, .int a1), (2, .int a2)]) hx hb dX5_worthOf_11 rfl hl (by decide) rfl (fun ls hl => ?_)
  refine lv_iload_n hx hb dX5_worthOf_12 rfl (lv_at hl 3 rfl) ?_
  refine lv_i2l hx hb dX5_worthOf_13 rfl ?_
  refine lv_iload_n hx hb dX5_worthOf_14 rfl (lv_at hl 0 rfl) ?_
  refine lv_i2l hx hb dX5_worthOf_15 rfl ?_
  refine lv_lmul hx hb dX5_worthOf_16 ?_
  refine lv_bipush (v := 100) hx hb dX5_worthOf_17 (by decide) ?_
  refine lv_aload_n hx hb dX5_worthOf_19 rfl (lv_at hl 1 rfl) ?_
  refine va_get (D := D) (ci := 6) (C := RX5) (T := TX5) (N := 8) hx hb hts iuX5 hown hK.1 (WW_one hR (f := 0) (i := 0) rfl) 0 rfl rfl 2 (by decide) (hts _ q_166) (fun _ h9 => h9) rfl dX5_worthOf_20 ?_
  refine lv_iload_n hx hb dX5_worthOf_23 rfl (lv_at hl 2 rfl) ?_
  refine va_aldq (C := RX1) hx hb hK.1 (WW_one hR (f := 9) (i := 0) rfl) 0 5 rfl rfl g1 dX5_worthOf_24 ?_
  refine va_getN (D := D) (ci := 2) (C := RX1) (T := TX1) (N := 2) hx hb hts iuX1 hown hK.1 (WW_one hR (f := 10) (i := a1.toNatClampNeg) (vin_lt g1)) 0 rfl rfl 1 (by decide) (nw_f hK.2 q_158) (fun _ h9 => h9) rfl dX5_worthOf_25 ?_
  refine lv_isub hx hb dX5_worthOf_28 ?_
  refine lv_i2l hx hb dX5_worthOf_29 rfl ?_
  refine lv_lmul hx hb dX5_worthOf_30 ?_
  refine lv_ldc2 (v := 100) hx hb hown (hts _ q_393) dX5_worthOf_31 ?_
  refine lv_ldiv hx hb dX5_worthOf_34 (by decide) ?_
  cases hf
  exact ret_l hC hR hS dX5_worthOf_35
def fX5_haircutBy_L7 (σ : St) : Nat → Int32 → Int32 → Int32 → Nat → Int32 → Option (Int32)
  | 0, _, _, _, _, _ => none
  | n + 1, v4, v3, v2, v0, v1 => if 4 ≤ v4 then bd (fX5_dividedUp σ ((v2 - v3) * 100) v1) (fun q2 => some ((if (10 + q2) < 90 then (10 + q2) else 90))) else gd (vin v4 4) (kst ((if v2 < (gI σ 11 v0 v4.toNatClampNeg) then (gI σ 11 v0 v4.toNatClampNeg) else v2)) (fun x4 => kst ((if (gI σ 11 v0 v4.toNatClampNeg) < v3 then (gI σ 11 v0 v4.toNatClampNeg) else v3)) (fun x5 => kst (v4 + 1) (fun x6 => fX5_haircutBy_L7 σ n x6 x5 x4 v0 v1))))
set_option maxHeartbeats 4000000 in
set_option maxRecDepth 100000 in
theorem wX5_haircutBy_L7 {p : Program} {l : Launch} {e : Env} {s : State} {m : MethodId} {args : Array Value} {below : List Frame} {meth : Method} {c : Code} {D : va_G} {dA : Nat → ClassId} {A0 : Nat → Prop} {ad : Nat → Nat → Nat} {r : Int32} {σ : St} (hC : CTX p s m args meth c cX5_haircutBy 5 RX5 (some .int)) (hK : KS D dA s) (hA : ∀ q, s.heap.size ≤ q → A0 q) : ∀ (n : Nat) (H : Heap) (locs : List Loc) (ls : Array Slot) (v4 : Int32) (v3 : Int32) (v2 : Int32) (v0 : Nat) (v1 : Int32) (hv0 : cvC σ 11 v0), HC D dA A0 ad σ H → va_S A0 s.heap H locs → lv_has ls 5 [(4, .int v4), (3, .int v3), (2, .int v2), (0, .ref (ad 11 v0)), (1, .int v1)] → fX5_haircutBy_L7 σ n v4 v3 v2 v0 v1 = some r → W p l e ({ frames := 1, cells := 0, slots := 0, locals := 23 } : Room) s m args below meth c H locs 0 0 (MQ below (va_Qi (fun (x : Int32) (_ : Unit) => x = r) (fun _ t => HC D dA A0 ad σ t.heap) A0) args s 0 0 A0) (F0 m 7 ls []) := by
  obtain ⟨hx, hb, hml, hown, hts, hr, hlk⟩ := id hC
  intro n
  induction n with
  | zero =>
    intro H locs ls v4 v3 v2 v0 v1 hv0 hR hS hl hf
    rw [fX5_haircutBy_L7.eq_1] at hf
    cases hf
  | succ n ih =>
    intro H locs ls v4 v3 v2 v0 v1 hv0 hR hS hl hf
    rw [fX5_haircutBy_L7.eq_2] at hf
    refine lv_iload hx hb dX5_haircutBy_7 (lv_at hl 0 rfl) ?_
    refine lv_aload_n hx hb dX5_haircutBy_9 rfl (lv_at hl 3 rfl) ?_
    refine va_alen (v := 4) (ty := .int) hx hb hK.1 (WW_one hR (f := 11) (i := v0) hv0) 0 0 rfl rfl (show Int32.ofNat 4 = (4 : Int32) by decide) dX5_haircutBy_10 ?_
    refine lv_icmp_ge (tgt := 38) hx hb dX5_haircutBy_11 (by decide) (fun c1 => ?_) (fun c1 => ?_)
    · have hf := if_of_pos hf c1
      refine lv_bipush (v := 90) hx hb dX5_haircutBy_38 (by decide) ?_
      refine lv_bipush (v := 10) hx hb dX5_haircutBy_40 (by decide) ?_
      refine lv_iload_n hx hb dX5_haircutBy_42 rfl (lv_at hl 2 rfl) ?_
      refine lv_iload_n hx hb dX5_haircutBy_43 rfl (lv_at hl 1 rfl) ?_
      refine lv_isub hx hb dX5_haircutBy_44 ?_
      refine lv_bipush (v := 100) hx hb dX5_haircutBy_45 (by decide) ?_
      refine lv_imul hx hb dX5_haircutBy_47 ?_
      refine lv_iload_n hx hb dX5_haircutBy_48 rfl (lv_at hl 4 rfl) ?_
      obtain ⟨q2, hcq2, hf⟩ := bd_of hf
      refine kc_i (va_runS (As := [.int ((v2 - v3) * 100), .int v1]) (rest := [.int 10, .int 90]) ⟨hx, hb, hml, hown, hts⟩ (mX5_dividedUp l D dA ad σ _ ((v2 - v3) * 100) v1 q2 hcq2) (va_cwS 2 hts gX5_266 rfl rfl rfl (by decide +kernel) ⟨Nat.le_of_ble_eq_true rfl, Nat.le_of_ble_eq_true rfl⟩) (preS_of hR hK _) rfl rfl hl.1 rfl (lv_room (Nat.le_of_ble_eq_true rfl)) dX5_haircutBy_49 ⟨Nat.zero_le _, Nat.zero_le _⟩) hA hR hS (fun H locs hR hS => ?_)
      refine lv_iadd hx hb dX5_haircutBy_52 ?_
      refine va_mmin hx hb (hml.trans hl.1.symm) hown (hts _ q_340) (hts _ q_341) (hts _ q_48) (hts _ q_342) (Nat.le_of_ble_eq_true rfl) (Nat.le_of_ble_eq_true rfl) (Nat.le_of_ble_eq_true rfl) (Nat.le_of_ble_eq_true rfl) dX5_haircutBy_53 ?_
      cases hf
      exact ret_i hC hR hS dX5_haircutBy_56
    · have hf := if_of_neg hf c1
      refine lv_iload_n hx hb dX5_haircutBy_14 rfl (lv_at hl 2 rfl) ?_
      refine lv_aload_n hx hb dX5_haircutBy_15 rfl (lv_at hl 3 rfl) ?_
      refine lv_iload hx hb dX5_haircutBy_16 (lv_at hl 0 rfl) ?_
      obtain ⟨g3, hf⟩ := gd_of hf
      refine va_iald hx hb hK.1 (WW_one hR (f := 11) (i := v0) hv0) 0 0 rfl rfl g3 dX5_haircutBy_18 ?_
      refine va_mmax hx hb (hml.trans hl.1.symm) hown (hts _ q_337) (hts _ q_338) (hts _ q_48) (hts _ q_339) (Nat.le_of_ble_eq_true rfl) (Nat.le_of_ble_eq_true rfl) (Nat.le_of_ble_eq_true rfl) (Nat.le_of_ble_eq_true rfl) dX5_haircutBy_19 ?_
      refine lv_topi (fun x4 hx4 => ?_)
      have hf := kst_eq hx4 hf
      refine lv_istore_n (lv' := [(2, .int x4), (4, .int v4), (3, .int v3), (0, .ref (ad 11 v0)), (1, .int v1)]) hx hb dX5_haircutBy_22 rfl hl (by decide) rfl (fun ls hl => ?_)
      refine lv_iload_n hx hb dX5_haircutBy_23 rfl (lv_at hl 2 rfl) ?_
      refine lv_aload_n hx hb dX5_haircutBy_24 rfl (lv_at hl 3 rfl) ?_
      refine lv_iload hx hb dX5_haircutBy_25 (lv_at hl 1 rfl) ?_
      refine va_iald hx hb hK.1 (WW_one hR (f := 11) (i := v0) hv0) 0 0 rfl rfl g3 dX5_haircutBy_27 ?_
      refine va_mmin hx hb (hml.trans hl.1.symm) hown (hts _ q_340) (hts _ q_341) (hts _ q_48) (hts _ q_342) (Nat.le_of_ble_eq_true rfl) (Nat.le_of_ble_eq_true rfl) (Nat.le_of_ble_eq_true rfl) (Nat.le_of_ble_eq_true rfl) dX5_haircutBy_28 ?_
      refine lv_topi (fun x5 hx5 => ?_)
      have hf := kst_eq hx5 hf
      refine lv_istore_n (lv' := [(3, .int x5), (2, .int x4), (4, .int v4), (0, .ref (ad 11 v0)), (1, .int v1)]) hx hb dX5_haircutBy_31 rfl hl (by decide) rfl (fun ls hl => ?_)
      obtain ⟨x6, hx6⟩ : ∃ y : Int32, y = v4 + 1 := ⟨_, rfl⟩
      have hf := kst_eq hx6 hf
      refine lv_iinc (v := x6) (lv' := [(4, .int x6), (3, .int x5), (2, .int x4), (0, .ref (ad 11 v0)), (1, .int v1)]) hx hb dX5_haircutBy_32 hl (k := 2) rfl (by rw [hx6]; rfl) (by decide) rfl (fun ls hl => ?_)
      refine lv_goto (tgt := 7) hx hb dX5_haircutBy_35 (by decide) ?_
      exact ih _ _ _ x6 x5 x4 v0 v1 hv0 hR hS (lv_sub hl [0, 1, 2, 3, 4] rfl) hf
def fX5_haircutBy (σ : St) (a1 : Nat) (a2 : Int32) : Option (Int32) := fX5_haircutBy_L7 σ 1000 0 a2 a2 a1 a2
set_option maxHeartbeats 4000000 in
set_option maxRecDepth 100000 in
theorem mX5_haircutBy (l : Launch) (D : va_G) (dA : Nat → ClassId) (ad : Nat → Nat → Nat) (σ : St) (sz : Nat) (a1 : Nat) (a2 : Int32) (r : Int32) (hf : fX5_haircutBy σ a1 a2 = some r) (ha1 : cvC σ 11 a1) : Met l yX5_haircutBy (WSy yX5_haircutBy cX5_haircutBy 5 (some .int)) ({ frames := 1, cells := 0, slots := 0, locals := 23 } : Room) (va_Pc [.ref (ad 11 a1), .int a2] (fun U => U.heap.size = sz ∧ HC D dA (fun _ => True) ad σ U.heap ∧ KS D dA U)) (va_Qi (fun (x : Int32) (_ : Unit) => x = r) (fun _ t => HC D dA (WA ad (cvC σ) sz) ad σ t.heap) (WA ad (cvC σ) sz)) 0 0 (WA ad (cvC σ) sz) := by
  refine met_of (by decide) (Nat.le_of_ble_eq_true rfl) ?_
  intro p e s m below meth c ls hC hB hl
  obtain ⟨rfl, hR, hK⟩ := hB
  have hA : ∀ q : Nat, s.heap.size ≤ q → WA ad (cvC σ) s.heap.size q := fun q h => Or.inr h
  have hR := WW_fit (B := WA ad (cvC σ) s.heap.size) hR (fun f i h => WA_in h)
  have hS : va_S (WA ad (cvC σ) s.heap.size) s.heap s.heap [] := va_S.rf
  generalize WA ad (cvC σ) s.heap.size = A0 at hA hR hS ⊢
  have hC : CTX p s m _ meth c cX5_haircutBy 5 RX5 (some .int) := hC
  obtain ⟨hx, hb, hml, hown, hts, hr, hlk⟩ := id hC
  have hl : lv_has ls 5 [(0, .ref (ad 11 a1)), (1, .int a2)] := hl
  unfold fX5_haircutBy at hf
  refine lv_iload_n hx hb dX5_haircutBy_0 rfl (lv_at hl 1 rfl) ?_
  refine lv_istore_n (lv' := [(2, .int a2), (0, .ref (ad 11 a1)), (1, .int a2)]) hx hb dX5_haircutBy_1 rfl hl (by decide) rfl (fun ls hl => ?_)
  refine lv_iload_n hx hb dX5_haircutBy_2 rfl (lv_at hl 2 rfl) ?_
  refine lv_istore_n (lv' := [(3, .int a2), (2, .int a2), (0, .ref (ad 11 a1)), (1, .int a2)]) hx hb dX5_haircutBy_3 rfl hl (by decide) rfl (fun ls hl => ?_)
  refine lv_iconst (v := 0) hx hb dX5_haircutBy_4 (by decide) ?_
  refine lv_istore (lv' := [(4, .int 0), (3, .int a2), (2, .int a2), (0, .ref (ad 11 a1)), (1, .int a2)]) hx hb dX5_haircutBy_5 hl (by decide) rfl (fun ls hl => ?_)
  exact wX5_haircutBy_L7 hC hK hA 1000 _ _ _ 0 a2 a2 a1 a2 ha1 hR hS (lv_sub hl [0, 1, 2, 3, 4] rfl) hf
def fX5_differenceOf (σ : St) (a1 : Nat) (a2 : Int32) : Option (Int64) := gd (vin a2 3) (some (((Int32.toInt64 (gI σ 4 a1 a2.toNatClampNeg)) * (Int32.toInt64 (gI σ 2 a2.toNatClampNeg 0))) - (gL σ 5 a1 a2.toNatClampNeg)))
set_option maxHeartbeats 4000000 in
set_option maxRecDepth 100000 in
theorem mX5_differenceOf (l : Launch) (D : va_G) (dA : Nat → ClassId) (ad : Nat → Nat → Nat) (σ : St) (sz : Nat) (a1 : Nat) (a2 : Int32) (r : Int64) (hf : fX5_differenceOf σ a1 a2 = some r) (ha1 : cvC σ 2 a1) : Met l yX5_differenceOf (WSy yX5_differenceOf cX5_differenceOf 3 (some .long)) ({ frames := 0, cells := 0, slots := 0, locals := 0 } : Room) (va_Pc [.ref (ad 0 0), .ref (ad 2 a1), .int a2] (fun U => U.heap.size = sz ∧ HC D dA (fun _ => True) ad σ U.heap ∧ KS D dA U)) (va_Ql (fun (x : Int64) (_ : Unit) => x = r) (fun _ t => HC D dA (WA ad (cvC σ) sz) ad σ t.heap) (WA ad (cvC σ) sz)) 0 0 (WA ad (cvC σ) sz) := by
  refine met_of (by decide) (Nat.le_of_ble_eq_true rfl) ?_
  intro p e s m below meth c ls hC hB hl
  obtain ⟨rfl, hR, hK⟩ := hB
  have hA : ∀ q : Nat, s.heap.size ≤ q → WA ad (cvC σ) s.heap.size q := fun q h => Or.inr h
  have hR := WW_fit (B := WA ad (cvC σ) s.heap.size) hR (fun f i h => WA_in h)
  have hS : va_S (WA ad (cvC σ) s.heap.size) s.heap s.heap [] := va_S.rf
  generalize WA ad (cvC σ) s.heap.size = A0 at hA hR hS ⊢
  have hC : CTX p s m _ meth c cX5_differenceOf 3 RX5 (some .long) := hC
  obtain ⟨hx, hb, hml, hown, hts, hr, hlk⟩ := id hC
  have hl : lv_has ls 3 [(0, .ref (ad 0 0)), (1, .ref (ad 2 a1)), (2, .int a2)] := hl
  unfold fX5_differenceOf at hf
  refine lv_aload_n hx hb dX5_differenceOf_0 rfl (lv_at hl 1 rfl) ?_
  refine va_getN (D := D) (ci := 1) (C := RX0) (T := TX0) (N := 8) hx hb hts iuX0 hown hK.1 (WW_one hR (f := 2) (i := a1) ha1) 0 rfl rfl 6 (by decide) (nw_f hK.2 q_111) (fun _ h9 => h9) rfl dX5_differenceOf_1 ?_
  refine lv_iload_n hx hb dX5_differenceOf_4 rfl (lv_at hl 2 rfl) ?_
  obtain ⟨g1, hf⟩ := gd_of hf
  refine va_iald hx hb hK.1 (WW_one hR (f := 4) (i := a1) ha1) 0 0 rfl rfl g1 dX5_differenceOf_5 ?_
  refine lv_i2l hx hb dX5_differenceOf_6 rfl ?_
  refine lv_aload_n hx hb dX5_differenceOf_7 rfl (lv_at hl 0 rfl) ?_
  refine va_get (D := D) (ci := 6) (C := RX5) (T := TX5) (N := 8) hx hb hts iuX5 hown hK.1 (WW_one hR (f := 0) (i := 0) rfl) 0 rfl rfl 1 (by decide) (hts _ q_165) (fun _ h9 => h9) rfl dX5_differenceOf_8 ?_
  refine lv_iload_n hx hb dX5_differenceOf_11 rfl (lv_at hl 2 rfl) ?_
  refine va_aldq (C := RX3) hx hb hK.1 (WW_one hR (f := 6) (i := 0) rfl) 0 4 rfl rfl g1 dX5_differenceOf_12 ?_
  refine va_getN (D := D) (ci := 4) (C := RX3) (T := TX3) (N := 3) hx hb hts iuX3 hown hK.1 (WW_one hR (f := 7) (i := a2.toNatClampNeg) (vin_lt g1)) 0 rfl rfl 0 (by decide) (nw_f hK.2 q_139) (fun _ h9 => h9) rfl dX5_differenceOf_13 ?_
  refine lv_i2l hx hb dX5_differenceOf_16 rfl ?_
  refine lv_lmul hx hb dX5_differenceOf_17 ?_
  refine lv_aload_n hx hb dX5_differenceOf_18 rfl (lv_at hl 1 rfl) ?_
  refine va_getN (D := D) (ci := 1) (C := RX0) (T := TX0) (N := 8) hx hb hts iuX0 hown hK.1 (WW_one hR (f := 2) (i := a1) ha1) 0 rfl rfl 7 (by decide) (nw_f hK.2 q_113) (fun _ h9 => h9) rfl dX5_differenceOf_19 ?_
  refine lv_iload_n hx hb dX5_differenceOf_22 rfl (lv_at hl 2 rfl) ?_
  refine va_lald hx hb hK.1 (WW_one hR (f := 5) (i := a1) ha1) 0 1 rfl rfl g1 dX5_differenceOf_23 ?_
  refine lv_lsub hx hb dX5_differenceOf_24 ?_
  cases hf
  exact ret_l hC hR hS dX5_differenceOf_25
def fX5_equityOf_L15 (σ : St) : Nat → Int32 → Int64 → Nat → Int32 → Option (Int64)
  | 0, _, _, _, _ => none
  | n + 1, v5, v3, v2, v1 => if 3 ≤ v5 then some (v3) else bd (fX5_differenceOf σ v2 v5) (fun q4 => kst (v3 + q4) (fun x5 => kst (v5 + 1) (fun x6 => fX5_equityOf_L15 σ n x6 x5 v2 v1)))
set_option maxHeartbeats 4000000 in
set_option maxRecDepth 100000 in
theorem wX5_equityOf_L15 {p : Program} {l : Launch} {e : Env} {s : State} {m : MethodId} {args : Array Value} {below : List Frame} {meth : Method} {c : Code} {D : va_G} {dA : Nat → ClassId} {A0 : Nat → Prop} {ad : Nat → Nat → Nat} {r : Int64} {σ : St} (hC : CTX p s m args meth c cX5_equityOf 6 RX5 (some .long)) (hK : KS D dA s) (hA : ∀ q, s.heap.size ≤ q → A0 q) : ∀ (n : Nat) (H : Heap) (locs : List Loc) (ls : Array Slot) (v5 : Int32) (v3 : Int64) (v2 : Nat) (v1 : Int32) (hv2 : cvC σ 2 v2), HC D dA A0 ad σ H → va_S A0 s.heap H locs → lv_has ls 6 [(5, .int v5), (3, .long v3), (2, .ref (ad 2 v2)), (0, .ref (ad 0 0)), (1, .int v1)] → fX5_equityOf_L15 σ n v5 v3 v2 v1 = some r → W p l e ({ frames := 1, cells := 0, slots := 0, locals := 22 } : Room) s m args below meth c H locs 0 0 (MQ below (va_Ql (fun (x : Int64) (_ : Unit) => x = r) (fun _ t => HC D dA A0 ad σ t.heap) A0) args s 0 0 A0) (F0 m 15 ls []) := by
  obtain ⟨hx, hb, hml, hown, hts, hr, hlk⟩ := id hC
  intro n
  induction n with
  | zero =>
    intro H locs ls v5 v3 v2 v1 hv2 hR hS hl hf
    rw [fX5_equityOf_L15.eq_1] at hf
    cases hf
  | succ n ih =>
    intro H locs ls v5 v3 v2 v1 hv2 hR hS hl hf
    rw [fX5_equityOf_L15.eq_2] at hf
    refine lv_iload hx hb dX5_equityOf_15 (lv_at hl 0 rfl) ?_
    refine lv_iconst (v := 3) hx hb dX5_equityOf_17 (by decide) ?_
    refine lv_icmp_ge (tgt := 37) hx hb dX5_equityOf_18 (by decide) (fun c3 => ?_) (fun c3 => ?_)
    · have hf := if_of_pos hf c3
      refine lv_lload_n hx hb dX5_equityOf_37 rfl (lv_at hl 1 rfl) ?_
      cases hf
      exact ret_l hC hR hS dX5_equityOf_38
    · have hf := if_of_neg hf c3
      refine lv_lload_n hx hb dX5_equityOf_21 rfl (lv_at hl 1 rfl) ?_
      refine lv_aload_n hx hb dX5_equityOf_22 rfl (lv_at hl 3 rfl) ?_
      refine lv_aload_n hx hb dX5_equityOf_23 rfl (lv_at hl 2 rfl) ?_
      refine lv_iload hx hb dX5_equityOf_24 (lv_at hl 0 rfl) ?_
      obtain ⟨q4, hcq4, hf⟩ := bd_of hf
      refine kc_l (va_runV (As := [.ref (ad 2 v2), .int v5]) (rest := [.long v3]) ⟨hx, hb, hml, hown, hts⟩ (mX5_differenceOf l D dA ad σ _ v2 v5 q4 hcq4 hv2) (cwV 2 hts gX5_246 rfl rfl rfl (by decide +kernel) ⟨Nat.le_of_ble_eq_true rfl, Nat.le_of_ble_eq_true rfl⟩) (preV_of hR hK (f := 0) (i := 0) rfl rfl rfl _) rfl rfl hl.1 rfl (lv_room (Nat.le_of_ble_eq_true rfl)) dX5_equityOf_26 ⟨Nat.zero_le _, Nat.zero_le _⟩) hA hR hS (fun H locs hR hS => ?_)
      refine lv_ladd hx hb dX5_equityOf_29 ?_
      refine lv_topl (fun x5 hx5 => ?_)
      have hf := kst_eq hx5 hf
      refine lv_lstore_n (lv' := [(3, .long x5), (5, .int v5), (2, .ref (ad 2 v2)), (0, .ref (ad 0 0)), (1, .int v1)]) hx hb dX5_equityOf_30 rfl hl (by decide) rfl (fun ls hl => ?_)
      obtain ⟨x6, hx6⟩ : ∃ y : Int32, y = v5 + 1 := ⟨_, rfl⟩
      have hf := kst_eq hx6 hf
      refine lv_iinc (v := x6) (lv' := [(5, .int x6), (3, .long x5), (2, .ref (ad 2 v2)), (0, .ref (ad 0 0)), (1, .int v1)]) hx hb dX5_equityOf_31 hl (k := 1) rfl (by rw [hx6]; rfl) (by decide) rfl (fun ls hl => ?_)
      refine lv_goto (tgt := 15) hx hb dX5_equityOf_34 (by decide) ?_
      exact ih _ _ _ x6 x5 v2 v1 hv2 hR hS (lv_sub hl [0, 1, 2, 3, 4] rfl) hf
def fX5_equityOf (σ : St) (a1 : Int32) : Option (Int64) := gd (vin a1 5) (kst (gL σ 0 a1.toNatClampNeg 0) (fun x2 => fX5_equityOf_L15 σ 1000 0 x2 a1.toNatClampNeg a1))
set_option maxHeartbeats 4000000 in
set_option maxRecDepth 100000 in
theorem mX5_equityOf (l : Launch) (D : va_G) (dA : Nat → ClassId) (ad : Nat → Nat → Nat) (σ : St) (sz : Nat) (a1 : Int32) (r : Int64) (hf : fX5_equityOf σ a1 = some r) : Met l yX5_equityOf (WSy yX5_equityOf cX5_equityOf 6 (some .long)) ({ frames := 1, cells := 0, slots := 0, locals := 22 } : Room) (va_Pc [.ref (ad 0 0), .int a1] (fun U => U.heap.size = sz ∧ HC D dA (fun _ => True) ad σ U.heap ∧ KS D dA U)) (va_Ql (fun (x : Int64) (_ : Unit) => x = r) (fun _ t => HC D dA (WA ad (cvC σ) sz) ad σ t.heap) (WA ad (cvC σ) sz)) 0 0 (WA ad (cvC σ) sz) := by
  refine met_of (by decide) (Nat.le_of_ble_eq_true rfl) ?_
  intro p e s m below meth c ls hC hB hl
  obtain ⟨rfl, hR, hK⟩ := hB
  have hA : ∀ q : Nat, s.heap.size ≤ q → WA ad (cvC σ) s.heap.size q := fun q h => Or.inr h
  have hR := WW_fit (B := WA ad (cvC σ) s.heap.size) hR (fun f i h => WA_in h)
  have hS : va_S (WA ad (cvC σ) s.heap.size) s.heap s.heap [] := va_S.rf
  generalize WA ad (cvC σ) s.heap.size = A0 at hA hR hS ⊢
  have hC : CTX p s m _ meth c cX5_equityOf 6 RX5 (some .long) := hC
  obtain ⟨hx, hb, hml, hown, hts, hr, hlk⟩ := id hC
  have hl : lv_has ls 6 [(0, .ref (ad 0 0)), (1, .int a1)] := hl
  unfold fX5_equityOf at hf
  refine lv_aload_n hx hb dX5_equityOf_0 rfl (lv_at hl 0 rfl) ?_
  refine va_get (D := D) (ci := 6) (C := RX5) (T := TX5) (N := 8) hx hb hts iuX5 hown hK.1 (WW_one hR (f := 0) (i := 0) rfl) 0 rfl rfl 0 (by decide) (hts _ q_164) (fun _ h9 => h9) rfl dX5_equityOf_1 ?_
  refine lv_iload_n hx hb dX5_equityOf_4 rfl (lv_at hl 1 rfl) ?_
  obtain ⟨g1, hf⟩ := gd_of hf
  refine va_aldq (C := RX0) hx hb hK.1 (WW_one hR (f := 1) (i := 0) rfl) 0 3 rfl rfl g1 dX5_equityOf_5 ?_
  refine lv_astore_n (lv' := [(2, .ref (ad 2 a1.toNatClampNeg)), (0, .ref (ad 0 0)), (1, .int a1)]) hx hb dX5_equityOf_6 rfl hl (by decide) rfl (fun ls hl => ?_)
  refine lv_aload_n hx hb dX5_equityOf_7 rfl (lv_at hl 0 rfl) ?_
  refine va_getN (D := D) (ci := 1) (C := RX0) (T := TX0) (N := 8) hx hb hts iuX0 hown hK.1 (WW_one hR (f := 2) (i := a1.toNatClampNeg) (vin_lt g1)) 0 rfl rfl 0 (by decide) (nw_f hK.2 q_102) (fun _ h9 => h9) rfl dX5_equityOf_8 ?_
  refine lv_topl (fun x2 hx2 => ?_)
  have hf := kst_eq hx2 hf
  refine lv_lstore_n (lv' := [(3, .long x2), (2, .ref (ad 2 a1.toNatClampNeg)), (0, .ref (ad 0 0)), (1, .int a1)]) hx hb dX5_equityOf_11 rfl hl (by decide) rfl (fun ls hl => ?_)
  refine lv_iconst (v := 0) hx hb dX5_equityOf_12 (by decide) ?_
  refine lv_istore (lv' := [(5, .int 0), (3, .long x2), (2, .ref (ad 2 a1.toNatClampNeg)), (0, .ref (ad 0 0)), (1, .int a1)]) hx hb dX5_equityOf_13 hl (by decide) rfl (fun ls hl => ?_)
  exact wX5_equityOf_L15 hC hK hA 1000 _ _ _ 0 x2 a1.toNatClampNeg a1 (vin_lt g1) hR hS (lv_sub hl [0, 1, 2, 3, 4] rfl) hf
def fX5_collateralOf_L5 (σ : St) : Nat → Int32 → Int64 → Int32 → Option (Int64)
  | 0, _, _, _ => none
  | n + 1, v4, v2, v1 => if 2 ≤ v4 then some (v2) else gd (vin v1 5) (gd (vin v4 2) (bd (fX5_worthOf σ v4 (gI σ 3 v1.toNatClampNeg v4.toNatClampNeg)) (fun q4 => kst (v2 + q4) (fun x5 => kst (v4 + 1) (fun x6 => fX5_collateralOf_L5 σ n x6 x5 v1)))))
set_option maxHeartbeats 4000000 in
set_option maxRecDepth 100000 in
theorem wX5_collateralOf_L5 {p : Program} {l : Launch} {e : Env} {s : State} {m : MethodId} {args : Array Value} {below : List Frame} {meth : Method} {c : Code} {D : va_G} {dA : Nat → ClassId} {A0 : Nat → Prop} {ad : Nat → Nat → Nat} {r : Int64} {σ : St} (hC : CTX p s m args meth c cX5_collateralOf 5 RX5 (some .long)) (hK : KS D dA s) (hA : ∀ q, s.heap.size ≤ q → A0 q) : ∀ (n : Nat) (H : Heap) (locs : List Loc) (ls : Array Slot) (v4 : Int32) (v2 : Int64) (v1 : Int32), HC D dA A0 ad σ H → va_S A0 s.heap H locs → lv_has ls 5 [(4, .int v4), (2, .long v2), (0, .ref (ad 0 0)), (1, .int v1)] → fX5_collateralOf_L5 σ n v4 v2 v1 = some r → W p l e ({ frames := 1, cells := 0, slots := 0, locals := 23 } : Room) s m args below meth c H locs 0 0 (MQ below (va_Ql (fun (x : Int64) (_ : Unit) => x = r) (fun _ t => HC D dA A0 ad σ t.heap) A0) args s 0 0 A0) (F0 m 5 ls []) := by
  obtain ⟨hx, hb, hml, hown, hts, hr, hlk⟩ := id hC
  intro n
  induction n with
  | zero =>
    intro H locs ls v4 v2 v1 hR hS hl hf
    rw [fX5_collateralOf_L5.eq_1] at hf
    cases hf
  | succ n ih =>
    intro H locs ls v4 v2 v1 hR hS hl hf
    rw [fX5_collateralOf_L5.eq_2] at hf
    refine lv_iload hx hb dX5_collateralOf_5 (lv_at hl 0 rfl) ?_
    refine lv_iconst (v := 2) hx hb dX5_collateralOf_7 (by decide) ?_
    refine lv_icmp_ge (tgt := 38) hx hb dX5_collateralOf_8 (by decide) (fun c1 => ?_) (fun c1 => ?_)
    · have hf := if_of_pos hf c1
      refine lv_lload_n hx hb dX5_collateralOf_38 rfl (lv_at hl 1 rfl) ?_
      cases hf
      exact ret_l hC hR hS dX5_collateralOf_39
    · have hf := if_of_neg hf c1
      refine lv_lload_n hx hb dX5_collateralOf_11 rfl (lv_at hl 1 rfl) ?_
      refine lv_aload_n hx hb dX5_collateralOf_12 rfl (lv_at hl 2 rfl) ?_
      refine lv_iload hx hb dX5_collateralOf_13 (lv_at hl 0 rfl) ?_
      refine lv_aload_n hx hb dX5_collateralOf_15 rfl (lv_at hl 2 rfl) ?_
      refine va_get (D := D) (ci := 6) (C := RX5) (T := TX5) (N := 8) hx hb hts iuX5 hown hK.1 (WW_one hR (f := 0) (i := 0) rfl) 0 rfl rfl 0 (by decide) (hts _ q_164) (fun _ h9 => h9) rfl dX5_collateralOf_16 ?_
      refine lv_iload_n hx hb dX5_collateralOf_19 rfl (lv_at hl 3 rfl) ?_
      obtain ⟨g2, hf⟩ := gd_of hf
      refine va_aldq (C := RX0) hx hb hK.1 (WW_one hR (f := 1) (i := 0) rfl) 0 3 rfl rfl g2 dX5_collateralOf_20 ?_
      refine va_getN (D := D) (ci := 1) (C := RX0) (T := TX0) (N := 8) hx hb hts iuX0 hown hK.1 (WW_one hR (f := 2) (i := v1.toNatClampNeg) (vin_lt g2)) 0 rfl rfl 5 (by decide) (nw_f hK.2 q_109) (fun _ h9 => h9) rfl dX5_collateralOf_21 ?_
      refine lv_iload hx hb dX5_collateralOf_24 (lv_at hl 0 rfl) ?_
      obtain ⟨g3, hf⟩ := gd_of hf
      refine va_iald hx hb hK.1 (WW_one hR (f := 3) (i := v1.toNatClampNeg) (vin_lt g2)) 0 0 rfl rfl g3 dX5_collateralOf_26 ?_
      obtain ⟨q4, hcq4, hf⟩ := bd_of hf
      refine kc_l (va_runV (As := [.int v4, .int (gI σ 3 v1.toNatClampNeg v4.toNatClampNeg)]) (rest := [.long v2]) ⟨hx, hb, hml, hown, hts⟩ (mX5_worthOf l D dA ad σ _ v4 (gI σ 3 v1.toNatClampNeg v4.toNatClampNeg) q4 hcq4) (cwV 2 hts gX5_101 rfl rfl rfl (by decide +kernel) ⟨Nat.le_of_ble_eq_true rfl, Nat.le_of_ble_eq_true rfl⟩) (preV_of hR hK (f := 0) (i := 0) rfl rfl rfl _) rfl rfl hl.1 rfl (lv_room (Nat.le_of_ble_eq_true rfl)) dX5_collateralOf_27 ⟨Nat.zero_le _, Nat.zero_le _⟩) hA hR hS (fun H locs hR hS => ?_)
      refine lv_ladd hx hb dX5_collateralOf_30 ?_
      refine lv_topl (fun x5 hx5 => ?_)
      have hf := kst_eq hx5 hf
      refine lv_lstore_n (lv' := [(2, .long x5), (4, .int v4), (0, .ref (ad 0 0)), (1, .int v1)]) hx hb dX5_collateralOf_31 rfl hl (by decide) rfl (fun ls hl => ?_)
      obtain ⟨x6, hx6⟩ : ∃ y : Int32, y = v4 + 1 := ⟨_, rfl⟩
      have hf := kst_eq hx6 hf
      refine lv_iinc (v := x6) (lv' := [(4, .int x6), (2, .long x5), (0, .ref (ad 0 0)), (1, .int v1)]) hx hb dX5_collateralOf_32 hl (k := 1) rfl (by rw [hx6]; rfl) (by decide) rfl (fun ls hl => ?_)
      refine lv_goto (tgt := 5) hx hb dX5_collateralOf_35 (by decide) ?_
      exact ih _ _ _ x6 x5 v1 hR hS (lv_sub hl [0, 1, 2, 3] rfl) hf
def fX5_collateralOf (σ : St) (a1 : Int32) : Option (Int64) := fX5_collateralOf_L5 σ 1000 0 0 a1
set_option maxHeartbeats 4000000 in
set_option maxRecDepth 100000 in
theorem mX5_collateralOf (l : Launch) (D : va_G) (dA : Nat → ClassId) (ad : Nat → Nat → Nat) (σ : St) (sz : Nat) (a1 : Int32) (r : Int64) (hf : fX5_collateralOf σ a1 = some r) : Met l yX5_collateralOf (WSy yX5_collateralOf cX5_collateralOf 5 (some .long)) ({ frames := 1, cells := 0, slots := 0, locals := 23 } : Room) (va_Pc [.ref (ad 0 0), .int a1] (fun U => U.heap.size = sz ∧ HC D dA (fun _ => True) ad σ U.heap ∧ KS D dA U)) (va_Ql (fun (x : Int64) (_ : Unit) => x = r) (fun _ t => HC D dA (WA ad (cvC σ) sz) ad σ t.heap) (WA ad (cvC σ) sz)) 0 0 (WA ad (cvC σ) sz) := by
  refine met_of (by decide) (Nat.le_of_ble_eq_true rfl) ?_
  intro p e s m below meth c ls hC hB hl
  obtain ⟨rfl, hR, hK⟩ := hB
  have hA : ∀ q : Nat, s.heap.size ≤ q → WA ad (cvC σ) s.heap.size q := fun q h => Or.inr h
  have hR := WW_fit (B := WA ad (cvC σ) s.heap.size) hR (fun f i h => WA_in h)
  have hS : va_S (WA ad (cvC σ) s.heap.size) s.heap s.heap [] := va_S.rf
  generalize WA ad (cvC σ) s.heap.size = A0 at hA hR hS ⊢
  have hC : CTX p s m _ meth c cX5_collateralOf 5 RX5 (some .long) := hC
  obtain ⟨hx, hb, hml, hown, hts, hr, hlk⟩ := id hC
  have hl : lv_has ls 5 [(0, .ref (ad 0 0)), (1, .int a1)] := hl
  unfold fX5_collateralOf at hf
  refine lv_lconst (v := 0) hx hb dX5_collateralOf_0 (by decide) ?_
  refine lv_lstore_n (lv' := [(2, .long 0), (0, .ref (ad 0 0)), (1, .int a1)]) hx hb dX5_collateralOf_1 rfl hl (by decide) rfl (fun ls hl => ?_)
  refine lv_iconst (v := 0) hx hb dX5_collateralOf_2 (by decide) ?_
  refine lv_istore (lv' := [(4, .int 0), (2, .long 0), (0, .ref (ad 0 0)), (1, .int a1)]) hx hb dX5_collateralOf_3 hl (by decide) rfl (fun ls hl => ?_)
  exact wX5_collateralOf_L5 hC hK hA 1000 _ _ _ 0 0 a1 hR hS (lv_sub hl [0, 1, 2, 3] rfl) hf
def fX5_book (σ : St) (a1 : Nat) (a2 : Int32) (a3 : Int32) (a4 : Int32) : Option (St) := gd (vin a2 3) (some (pL (pI σ 4 a1 a2.toNatClampNeg ((gI σ 4 a1 a2.toNatClampNeg) + a3)) 5 a1 a2.toNatClampNeg ((gL (pI σ 4 a1 a2.toNatClampNeg ((gI σ 4 a1 a2.toNatClampNeg) + a3)) 5 a1 a2.toNatClampNeg) + ((Int32.toInt64 a3) * (Int32.toInt64 a4)))))
set_option maxHeartbeats 4000000 in
set_option maxRecDepth 100000 in
theorem mX5_book (l : Launch) (D : va_G) (dA : Nat → ClassId) (ad : Nat → Nat → Nat) (σ : St) (sz : Nat) (a1 : Nat) (a2 : Int32) (a3 : Int32) (a4 : Int32) (σ' : St) (hf : fX5_book σ a1 a2 a3 a4 = some σ') (ha1 : cvC σ 2 a1) : Met l yX5_book (WSy yX5_book cX5_book 4 none) ({ frames := 0, cells := 0, slots := 0, locals := 0 } : Room) (va_Pc [.ref (ad 2 a1), .int a2, .int a3, .int a4] (fun U => U.heap.size = sz ∧ HC D dA (fun _ => True) ad σ U.heap ∧ KS D dA U)) (va_Qv (fun (_ : Unit) => True) (fun _ t => HC D dA (WA ad (cvC σ) sz) ad σ' t.heap) (WA ad (cvC σ) sz)) 0 0 (WA ad (cvC σ) sz) := by
  refine met_of (by decide) (Nat.le_of_ble_eq_true rfl) ?_
  intro p e s m below meth c ls hC hB hl
  obtain ⟨rfl, hR, hK⟩ := hB
  have hA : ∀ q : Nat, s.heap.size ≤ q → WA ad (cvC σ) s.heap.size q := fun q h => Or.inr h
  have hR := WW_fit (B := WA ad (cvC σ) s.heap.size) hR (fun f i h => WA_in h)
  have hS : va_S (WA ad (cvC σ) s.heap.size) s.heap s.heap [] := va_S.rf
  generalize WA ad (cvC σ) s.heap.size = A0 at hA hR hS ⊢
  have hC : CTX p s m _ meth c cX5_book 4 RX5 none := hC
  obtain ⟨hx, hb, hml, hown, hts, hr, hlk⟩ := id hC
  have hl : lv_has ls 4 [(0, .ref (ad 2 a1)), (1, .int a2), (2, .int a3), (3, .int a4)] := hl
  unfold fX5_book at hf
  refine lv_aload_n hx hb dX5_book_0 rfl (lv_at hl 0 rfl) ?_
  refine va_getN (D := D) (ci := 1) (C := RX0) (T := TX0) (N := 8) hx hb hts iuX0 hown hK.1 (WW_one hR (f := 2) (i := a1) ha1) 0 rfl rfl 6 (by decide) (nw_f hK.2 q_111) (fun _ h9 => h9) rfl dX5_book_1 ?_
  refine lv_iload_n hx hb dX5_book_4 rfl (lv_at hl 1 rfl) ?_
  refine lv_dup2_11 hx hb dX5_book_5 rfl rfl ?_
  obtain ⟨g1, hf⟩ := gd_of hf
  refine va_iald hx hb hK.1 (WW_one hR (f := 4) (i := a1) ha1) 0 0 rfl rfl g1 dX5_book_6 ?_
  refine lv_iload_n hx hb dX5_book_7 rfl (lv_at hl 2 rfl) ?_
  refine lv_iadd hx hb dX5_book_8 ?_
  refine ww_iast hx hb hK.1 hR hS 0 (f := 4) (j := a1) ha1 rfl rfl g1 dX5_book_9 (fun H locs hR hS => ?_)
  have hR := HC_row4 a1 (a2.toNatClampNeg) ((gI σ 4 a1 a2.toNatClampNeg) + a3) hR
  refine lv_aload_n hx hb dX5_book_10 rfl (lv_at hl 0 rfl) ?_
  refine va_getN (D := D) (ci := 1) (C := RX0) (T := TX0) (N := 8) hx hb hts iuX0 hown hK.1 (WW_one hR (f := 2) (i := a1) ha1) 0 rfl rfl 7 (by decide) (nw_f hK.2 q_113) (fun _ h9 => h9) rfl dX5_book_11 ?_
  refine lv_iload_n hx hb dX5_book_14 rfl (lv_at hl 1 rfl) ?_
  refine lv_dup2_11 hx hb dX5_book_15 rfl rfl ?_
  refine va_lald hx hb hK.1 (WW_one hR (f := 5) (i := a1) ha1) 0 1 rfl rfl g1 dX5_book_16 ?_
  refine lv_iload_n hx hb dX5_book_17 rfl (lv_at hl 2 rfl) ?_
  refine lv_i2l hx hb dX5_book_18 rfl ?_
  refine lv_iload_n hx hb dX5_book_19 rfl (lv_at hl 3 rfl) ?_
  refine lv_i2l hx hb dX5_book_20 rfl ?_
  refine lv_lmul hx hb dX5_book_21 ?_
  refine lv_ladd hx hb dX5_book_22 ?_
  refine ww_last hx hb hK.1 hR hS 1 (f := 5) (j := a1) ha1 rfl rfl g1 dX5_book_23 (fun H locs hR hS => ?_)
  have hR := HC_row5 a1 (a2.toNatClampNeg) ((gL (pI σ 4 a1 a2.toNatClampNeg ((gI σ 4 a1 a2.toNatClampNeg) + a3)) 5 a1 a2.toNatClampNeg) + ((Int32.toInt64 a3) * (Int32.toInt64 a4))) hR
  cases hf
  exact ret_v hC hR hS dX5_book_24
def fX5_receiveFromOutside (σ : St) (a1 : Nat) (a2 : Int64) : Option (St) := some (pL (pL σ 0 a1 0 ((gL σ 0 a1 0) + a2)) 2 a1 0 ((gL (pL σ 0 a1 0 ((gL σ 0 a1 0) + a2)) 2 a1 0) + a2))
set_option maxHeartbeats 4000000 in
set_option maxRecDepth 100000 in
theorem mX5_receiveFromOutside (l : Launch) (D : va_G) (dA : Nat → ClassId) (ad : Nat → Nat → Nat) (σ : St) (sz : Nat) (a1 : Nat) (a2 : Int64) (σ' : St) (hf : fX5_receiveFromOutside σ a1 a2 = some σ') (ha1 : cvC σ 2 a1) : Met l yX5_receiveFromOutside (WSy yX5_receiveFromOutside cX5_receiveFromOutside 3 none) ({ frames := 0, cells := 0, slots := 0, locals := 0 } : Room) (va_Pc [.ref (ad 2 a1), .long a2] (fun U => U.heap.size = sz ∧ HC D dA (fun _ => True) ad σ U.heap ∧ KS D dA U)) (va_Qv (fun (_ : Unit) => True) (fun _ t => HC D dA (WA ad (cvC σ) sz) ad σ' t.heap) (WA ad (cvC σ) sz)) 0 0 (WA ad (cvC σ) sz) := by
  refine met_of (by decide) (Nat.le_of_ble_eq_true rfl) ?_
  intro p e s m below meth c ls hC hB hl
  obtain ⟨rfl, hR, hK⟩ := hB
  have hA : ∀ q : Nat, s.heap.size ≤ q → WA ad (cvC σ) s.heap.size q := fun q h => Or.inr h
  have hR := WW_fit (B := WA ad (cvC σ) s.heap.size) hR (fun f i h => WA_in h)
  have hS : va_S (WA ad (cvC σ) s.heap.size) s.heap s.heap [] := va_S.rf
  generalize WA ad (cvC σ) s.heap.size = A0 at hA hR hS ⊢
  have hC : CTX p s m _ meth c cX5_receiveFromOutside 3 RX5 none := hC
  obtain ⟨hx, hb, hml, hown, hts, hr, hlk⟩ := id hC
  have hl : lv_has ls 3 [(0, .ref (ad 2 a1)), (1, .long a2)] := hl
  unfold fX5_receiveFromOutside at hf
  refine lv_aload_n hx hb dX5_receiveFromOutside_0 rfl (lv_at hl 0 rfl) ?_
  refine lv_dup hx hb dX5_receiveFromOutside_1 rfl ?_
  refine va_getN (D := D) (ci := 1) (C := RX0) (T := TX0) (N := 8) hx hb hts iuX0 hown hK.1 (WW_one hR (f := 2) (i := a1) ha1) 0 rfl rfl 0 (by decide) (nw_f hK.2 q_102) (fun _ h9 => h9) rfl dX5_receiveFromOutside_2 ?_
  refine lv_lload_n hx hb dX5_receiveFromOutside_5 rfl (lv_at hl 1 rfl) ?_
  refine lv_ladd hx hb dX5_receiveFromOutside_6 ?_
  refine ww_putN (D := D) (ci := 1) (C := RX0) (T := TX0) (N := 8) (ty := .long) hx hb hts iuX0 tyX0 tyX0_ok nmX0 hown hK.1 hR hS (f := 2) (i := a1) ha1 rfl rfl 0 (by decide) (nw_f hK.2 q_102) (fun _ h9 => h9) rfl (by decide +kernel) rfl rfl (Nat.le_of_ble_eq_true rfl) dX5_receiveFromOutside_7 (fun H locs hR hS => ?_)
  have hR := HC_Account_cash a1 ((gL σ 0 a1 0) + a2) hR
  refine lv_aload_n hx hb dX5_receiveFromOutside_10 rfl (lv_at hl 0 rfl) ?_
  refine lv_dup hx hb dX5_receiveFromOutside_11 rfl ?_
  refine va_getN (D := D) (ci := 1) (C := RX0) (T := TX0) (N := 8) hx hb hts iuX0 hown hK.1 (WW_one hR (f := 2) (i := a1) ha1) 0 rfl rfl 2 (by decide) (nw_f hK.2 q_104) (fun _ h9 => h9) rfl dX5_receiveFromOutside_12 ?_
  refine lv_lload_n hx hb dX5_receiveFromOutside_15 rfl (lv_at hl 1 rfl) ?_
  refine lv_ladd hx hb dX5_receiveFromOutside_16 ?_
  refine ww_putN (D := D) (ci := 1) (C := RX0) (T := TX0) (N := 8) (ty := .long) hx hb hts iuX0 tyX0 tyX0_ok nmX0 hown hK.1 hR hS (f := 2) (i := a1) ha1 rfl rfl 2 (by decide) (nw_f hK.2 q_104) (fun _ h9 => h9) rfl (by decide +kernel) rfl rfl (Nat.le_of_ble_eq_true rfl) dX5_receiveFromOutside_17 (fun H locs hR hS => ?_)
  have hR := HC_Account_outside a1 ((gL (pL σ 0 a1 0 ((gL σ 0 a1 0) + a2)) 2 a1 0) + a2) hR
  cases hf
  exact ret_v hC hR hS dX5_receiveFromOutside_20
def fX5_netPositions_L5 : Nat → St → Int32 → Int64 → Nat → Option (Int64 × St)
  | 0, _, _, _, _ => none
  | n + 1, σ, v4, v2, v1 => if 3 ≤ v4 then some ((v2, pL σ 0 v1 0 ((gL σ 0 v1 0) + v2))) else bd (fX5_differenceOf σ v1 v4) (fun q2 => kst (v2 + q2) (fun x3 => gd (vin v4 3) (kst (v4 + 1) (fun x5 => fX5_netPositions_L5 n (pL σ 5 v1 v4.toNatClampNeg ((gL σ 5 v1 v4.toNatClampNeg) + q2)) x5 x3 v1))))
set_option maxHeartbeats 4000000 in
set_option maxRecDepth 100000 in
theorem wX5_netPositions_L5 {p : Program} {l : Launch} {e : Env} {s : State} {m : MethodId} {args : Array Value} {below : List Frame} {meth : Method} {c : Code} {D : va_G} {dA : Nat → ClassId} {A0 : Nat → Prop} {ad : Nat → Nat → Nat} {r : Int64} {σ' : St}  (hC : CTX p s m args meth c cX5_netPositions 7 RX5 (some .long)) (hK : KS D dA s) (hA : ∀ q, s.heap.size ≤ q → A0 q) : ∀ (n : Nat) (H : Heap) (locs : List Loc) (ls : Array Slot) (σ : St) (v4 : Int32) (v2 : Int64) (v1 : Nat) (hv1 : cvC σ 2 v1), HC D dA A0 ad σ H → va_S A0 s.heap H locs → lv_has ls 7 [(4, .int v4), (2, .long v2), (0, .ref (ad 0 0)), (1, .ref (ad 2 v1))] → fX5_netPositions_L5 n σ v4 v2 v1 = some (r, σ') → W p l e ({ frames := 1, cells := 0, slots := 0, locals := 22 } : Room) s m args below meth c H locs 0 0 (MQ below (va_Ql (fun (x : Int64) (_ : Unit) => x = r) (fun _ t => HC D dA A0 ad σ' t.heap) A0) args s 0 0 A0) (F0 m 5 ls []) := by
  obtain ⟨hx, hb, hml, hown, hts, hr, hlk⟩ := id hC
  intro n
  induction n with
  | zero =>
    intro H locs ls σ v4 v2 v1 hv1 hR hS hl hf
    rw [fX5_netPositions_L5.eq_1] at hf
    cases hf
  | succ n ih =>
    intro H locs ls σ v4 v2 v1 hv1 hR hS hl hf
    rw [fX5_netPositions_L5.eq_2] at hf
    refine lv_iload hx hb dX5_netPositions_5 (lv_at hl 0 rfl) ?_
    refine lv_iconst (v := 3) hx hb dX5_netPositions_7 (by decide) ?_
    refine lv_icmp_ge (tgt := 43) hx hb dX5_netPositions_8 (by decide) (fun c1 => ?_) (fun c1 => ?_)
    · have hf := if_of_pos hf c1
      refine lv_aload_n hx hb dX5_netPositions_43 rfl (lv_at hl 3 rfl) ?_
      refine lv_dup hx hb dX5_netPositions_44 rfl ?_
      refine va_getN (D := D) (ci := 1) (C := RX0) (T := TX0) (N := 8) hx hb hts iuX0 hown hK.1 (WW_one hR (f := 2) (i := v1) hv1) 0 rfl rfl 0 (by decide) (nw_f hK.2 q_102) (fun _ h9 => h9) rfl dX5_netPositions_45 ?_
      refine lv_lload_n hx hb dX5_netPositions_48 rfl (lv_at hl 1 rfl) ?_
      refine lv_ladd hx hb dX5_netPositions_49 ?_
      refine ww_putN (D := D) (ci := 1) (C := RX0) (T := TX0) (N := 8) (ty := .long) hx hb hts iuX0 tyX0 tyX0_ok nmX0 hown hK.1 hR hS (f := 2) (i := v1) hv1 rfl rfl 0 (by decide) (nw_f hK.2 q_102) (fun _ h9 => h9) rfl (by decide +kernel) rfl rfl (Nat.le_of_ble_eq_true rfl) dX5_netPositions_50 (fun H locs hR hS => ?_)
      have hR := HC_Account_cash v1 ((gL σ 0 v1 0) + v2) hR
      refine lv_lload_n hx hb dX5_netPositions_53 rfl (lv_at hl 1 rfl) ?_
      cases hf
      exact ret_l hC hR hS dX5_netPositions_54
    · have hf := if_of_neg hf c1
      refine lv_aload_n hx hb dX5_netPositions_11 rfl (lv_at hl 2 rfl) ?_
      refine lv_aload_n hx hb dX5_netPositions_12 rfl (lv_at hl 3 rfl) ?_
      refine lv_iload hx hb dX5_netPositions_13 (lv_at hl 0 rfl) ?_
      obtain ⟨q2, hcq2, hf⟩ := bd_of hf
      refine kc_l (va_runV (As := [.ref (ad 2 v1), .int v4]) (rest := []) ⟨hx, hb, hml, hown, hts⟩ (mX5_differenceOf l D dA ad σ _ v1 v4 q2 hcq2 hv1) (cwV 2 hts gX5_246 rfl rfl rfl (by decide +kernel) ⟨Nat.le_of_ble_eq_true rfl, Nat.le_of_ble_eq_true rfl⟩) (preV_of hR hK (f := 0) (i := 0) rfl rfl rfl _) rfl rfl hl.1 rfl (lv_room (Nat.le_of_ble_eq_true rfl)) dX5_netPositions_15 ⟨Nat.zero_le _, Nat.zero_le _⟩) hA hR hS (fun H locs hR hS => ?_)
      refine lv_lstore (lv' := [(5, .long q2), (4, .int v4), (2, .long v2), (0, .ref (ad 0 0)), (1, .ref (ad 2 v1))]) hx hb dX5_netPositions_18 hl (by decide) rfl (fun ls hl => ?_)
      refine lv_lload_n hx hb dX5_netPositions_20 rfl (lv_at hl 2 rfl) ?_
      refine lv_lload hx hb dX5_netPositions_21 (lv_at hl 0 rfl) ?_
      refine lv_ladd hx hb dX5_netPositions_23 ?_
      refine lv_topl (fun x3 hx3 => ?_)
      have hf := kst_eq hx3 hf
      refine lv_lstore_n (lv' := [(2, .long x3), (5, .long q2), (4, .int v4), (0, .ref (ad 0 0)), (1, .ref (ad 2 v1))]) hx hb dX5_netPositions_24 rfl hl (by decide) rfl (fun ls hl => ?_)
      refine lv_aload_n hx hb dX5_netPositions_25 rfl (lv_at hl 4 rfl) ?_
      refine va_getN (D := D) (ci := 1) (C := RX0) (T := TX0) (N := 8) hx hb hts iuX0 hown hK.1 (WW_one hR (f := 2) (i := v1) hv1) 0 rfl rfl 7 (by decide) (nw_f hK.2 q_113) (fun _ h9 => h9) rfl dX5_netPositions_26 ?_
      refine lv_iload hx hb dX5_netPositions_29 (lv_at hl 2 rfl) ?_
      refine lv_dup2_11 hx hb dX5_netPositions_31 rfl rfl ?_
      obtain ⟨g4, hf⟩ := gd_of hf
      refine va_lald hx hb hK.1 (WW_one hR (f := 5) (i := v1) hv1) 0 1 rfl rfl g4 dX5_netPositions_32 ?_
      refine lv_lload hx hb dX5_netPositions_33 (lv_at hl 1 rfl) ?_
      refine lv_ladd hx hb dX5_netPositions_35 ?_
      refine ww_last hx hb hK.1 hR hS 1 (f := 5) (j := v1) hv1 rfl rfl g4 dX5_netPositions_36 (fun H locs hR hS => ?_)
      have hR := HC_row5 v1 (v4.toNatClampNeg) ((gL σ 5 v1 v4.toNatClampNeg) + q2) hR
      obtain ⟨x5, hx5⟩ : ∃ y : Int32, y = v4 + 1 := ⟨_, rfl⟩
      have hf := kst_eq hx5 hf
      refine lv_iinc (v := x5) (lv' := [(4, .int x5), (2, .long x3), (5, .long q2), (0, .ref (ad 0 0)), (1, .ref (ad 2 v1))]) hx hb dX5_netPositions_37 hl (k := 2) rfl (by rw [hx5]; rfl) (by decide) rfl (fun ls hl => ?_)
      refine lv_goto (tgt := 5) hx hb dX5_netPositions_40 (by decide) ?_
      exact ih _ _ _ (pL σ 5 v1 v4.toNatClampNeg ((gL σ 5 v1 v4.toNatClampNeg) + q2)) x5 x3 v1 hv1 hR hS (lv_sub hl [0, 1, 3, 4] rfl) hf
def fX5_netPositions (σ : St) (a1 : Nat) : Option (Int64 × St) := fX5_netPositions_L5 1000 σ 0 0 a1
set_option maxHeartbeats 4000000 in
set_option maxRecDepth 100000 in
theorem mX5_netPositions (l : Launch) (D : va_G) (dA : Nat → ClassId) (ad : Nat → Nat → Nat) (σ : St) (sz : Nat) (a1 : Nat) (r : Int64) (σ' : St) (hf : fX5_netPositions σ a1 = some (r, σ')) (ha1 : cvC σ 2 a1) : Met l yX5_netPositions (WSy yX5_netPositions cX5_netPositions 7 (some .long)) ({ frames := 1, cells := 0, slots := 0, locals := 22 } : Room) (va_Pc [.ref (ad 0 0), .ref (ad 2 a1)] (fun U => U.heap.size = sz ∧ HC D dA (fun _ => True) ad σ U.heap ∧ KS D dA U)) (va_Ql (fun (x : Int64) (_ : Unit) => x = r) (fun _ t => HC D dA (WA ad (cvC σ) sz) ad σ' t.heap) (WA ad (cvC σ) sz)) 0 0 (WA ad (cvC σ) sz) := by
  refine met_of (by decide) (Nat.le_of_ble_eq_true rfl) ?_
  intro p e s m below meth c ls hC hB hl
  obtain ⟨rfl, hR, hK⟩ := hB
  have hA : ∀ q : Nat, s.heap.size ≤ q → WA ad (cvC σ) s.heap.size q := fun q h => Or.inr h
  have hR := WW_fit (B := WA ad (cvC σ) s.heap.size) hR (fun f i h => WA_in h)
  have hS : va_S (WA ad (cvC σ) s.heap.size) s.heap s.heap [] := va_S.rf
  generalize WA ad (cvC σ) s.heap.size = A0 at hA hR hS ⊢
  have hC : CTX p s m _ meth c cX5_netPositions 7 RX5 (some .long) := hC
  obtain ⟨hx, hb, hml, hown, hts, hr, hlk⟩ := id hC
  have hl : lv_has ls 7 [(0, .ref (ad 0 0)), (1, .ref (ad 2 a1))] := hl
  unfold fX5_netPositions at hf
  refine lv_lconst (v := 0) hx hb dX5_netPositions_0 (by decide) ?_
  refine lv_lstore_n (lv' := [(2, .long 0), (0, .ref (ad 0 0)), (1, .ref (ad 2 a1))]) hx hb dX5_netPositions_1 rfl hl (by decide) rfl (fun ls hl => ?_)
  refine lv_iconst (v := 0) hx hb dX5_netPositions_2 (by decide) ?_
  refine lv_istore (lv' := [(4, .int 0), (2, .long 0), (0, .ref (ad 0 0)), (1, .ref (ad 2 a1))]) hx hb dX5_netPositions_3 hl (by decide) rfl (fun ls hl => ?_)
  exact wX5_netPositions_L5 hC hK hA 1000 _ _ _ σ 0 0 a1 ha1 hR hS (lv_sub hl [0, 1, 2, 3] rfl) hf
def fX5_gainOf (σ : St) (a1 : Int32) (a2 : Nat) : Option (Int64) := gd (vin (gI σ 42 a2 0) 3) (kst ((Int32.toInt64 (gI σ 43 a2 0)) * (Int32.toInt64 ((gI σ 2 ((gI σ 42 a2 0).toNatClampNeg) 0) - (gI σ 44 a2 0)))) (fun x2 => if ¬ (gI σ 40 a2 0) = a1 then if ¬ (gI σ 41 a2 0) = a1 then some (0) else some (-x2) else some (x2)))
set_option maxHeartbeats 4000000 in
set_option maxRecDepth 100000 in
theorem mX5_gainOf (l : Launch) (D : va_G) (dA : Nat → ClassId) (ad : Nat → Nat → Nat) (σ : St) (sz : Nat) (a1 : Int32) (a2 : Nat) (r : Int64) (hf : fX5_gainOf σ a1 a2 = some r) (ha2 : cvC σ 18 a2) : Met l yX5_gainOf (WSy yX5_gainOf cX5_gainOf 5 (some .long)) ({ frames := 0, cells := 0, slots := 0, locals := 0 } : Room) (va_Pc [.ref (ad 0 0), .int a1, .ref (ad 18 a2)] (fun U => U.heap.size = sz ∧ HC D dA (fun _ => True) ad σ U.heap ∧ KS D dA U)) (va_Ql (fun (x : Int64) (_ : Unit) => x = r) (fun _ t => HC D dA (WA ad (cvC σ) sz) ad σ t.heap) (WA ad (cvC σ) sz)) 0 0 (WA ad (cvC σ) sz) := by
  refine met_of (by decide) (Nat.le_of_ble_eq_true rfl) ?_
  intro p e s m below meth c ls hC hB hl
  obtain ⟨rfl, hR, hK⟩ := hB
  have hA : ∀ q : Nat, s.heap.size ≤ q → WA ad (cvC σ) s.heap.size q := fun q h => Or.inr h
  have hR := WW_fit (B := WA ad (cvC σ) s.heap.size) hR (fun f i h => WA_in h)
  have hS : va_S (WA ad (cvC σ) s.heap.size) s.heap s.heap [] := va_S.rf
  generalize WA ad (cvC σ) s.heap.size = A0 at hA hR hS ⊢
  have hC : CTX p s m _ meth c cX5_gainOf 5 RX5 (some .long) := hC
  obtain ⟨hx, hb, hml, hown, hts, hr, hlk⟩ := id hC
  have hl : lv_has ls 5 [(0, .ref (ad 0 0)), (1, .int a1), (2, .ref (ad 18 a2))] := hl
  unfold fX5_gainOf at hf
  refine lv_aload_n hx hb dX5_gainOf_0 rfl (lv_at hl 2 rfl) ?_
  refine va_getN (D := D) (ci := 5) (C := RX4) (T := TX4) (N := 5) hx hb hts iuX4 hown hK.1 (WW_one hR (f := 18) (i := a2) ha2) 0 rfl rfl 3 (by decide) (nw_f hK.2 q_542) (fun _ h9 => h9) rfl dX5_gainOf_1 ?_
  refine lv_i2l hx hb dX5_gainOf_4 rfl ?_
  refine lv_aload_n hx hb dX5_gainOf_5 rfl (lv_at hl 0 rfl) ?_
  refine va_get (D := D) (ci := 6) (C := RX5) (T := TX5) (N := 8) hx hb hts iuX5 hown hK.1 (WW_one hR (f := 0) (i := 0) rfl) 0 rfl rfl 1 (by decide) (hts _ q_165) (fun _ h9 => h9) rfl dX5_gainOf_6 ?_
  refine lv_aload_n hx hb dX5_gainOf_9 rfl (lv_at hl 2 rfl) ?_
  refine va_getN (D := D) (ci := 5) (C := RX4) (T := TX4) (N := 5) hx hb hts iuX4 hown hK.1 (WW_one hR (f := 18) (i := a2) ha2) 0 rfl rfl 2 (by decide) (nw_f hK.2 q_540) (fun _ h9 => h9) rfl dX5_gainOf_10 ?_
  obtain ⟨g1, hf⟩ := gd_of hf
  refine va_aldq (C := RX3) hx hb hK.1 (WW_one hR (f := 6) (i := 0) rfl) 0 4 rfl rfl g1 dX5_gainOf_13 ?_
  refine va_getN (D := D) (ci := 4) (C := RX3) (T := TX3) (N := 3) hx hb hts iuX3 hown hK.1 (WW_one hR (f := 7) (i := (gI σ 42 a2 0).toNatClampNeg) (vin_lt g1)) 0 rfl rfl 0 (by decide) (nw_f hK.2 q_139) (fun _ h9 => h9) rfl dX5_gainOf_14 ?_
  refine lv_aload_n hx hb dX5_gainOf_17 rfl (lv_at hl 2 rfl) ?_
  refine va_getN (D := D) (ci := 5) (C := RX4) (T := TX4) (N := 5) hx hb hts iuX4 hown hK.1 (WW_one hR (f := 18) (i := a2) ha2) 0 rfl rfl 4 (by decide) (nw_f hK.2 q_544) (fun _ h9 => h9) rfl dX5_gainOf_18 ?_
  refine lv_isub hx hb dX5_gainOf_21 ?_
  refine lv_i2l hx hb dX5_gainOf_22 rfl ?_
  refine lv_lmul hx hb dX5_gainOf_23 ?_
  refine lv_topl (fun x2 hx2 => ?_)
  have hf := kst_eq hx2 hf
  refine lv_lstore_n (lv' := [(3, .long x2), (0, .ref (ad 0 0)), (1, .int a1), (2, .ref (ad 18 a2))]) hx hb dX5_gainOf_24 rfl hl (by decide) rfl (fun ls hl => ?_)
  refine lv_aload_n hx hb dX5_gainOf_25 rfl (lv_at hl 3 rfl) ?_
  refine va_getN (D := D) (ci := 5) (C := RX4) (T := TX4) (N := 5) hx hb hts iuX4 hown hK.1 (WW_one hR (f := 18) (i := a2) ha2) 0 rfl rfl 0 (by decide) (nw_f hK.2 q_536) (fun _ h9 => h9) rfl dX5_gainOf_26 ?_
  refine lv_iload_n hx hb dX5_gainOf_29 rfl (lv_at hl 2 rfl) ?_
  refine lv_icmp_ne (tgt := 35) hx hb dX5_gainOf_30 (by decide) (fun c3 => ?_) (fun c3 => ?_)
  · have hf := if_of_pos hf c3
    refine lv_aload_n hx hb dX5_gainOf_35 rfl (lv_at hl 3 rfl) ?_
    refine va_getN (D := D) (ci := 5) (C := RX4) (T := TX4) (N := 5) hx hb hts iuX4 hown hK.1 (WW_one hR (f := 18) (i := a2) ha2) 0 rfl rfl 1 (by decide) (nw_f hK.2 q_538) (fun _ h9 => h9) rfl dX5_gainOf_36 ?_
    refine lv_iload_n hx hb dX5_gainOf_39 rfl (lv_at hl 2 rfl) ?_
    refine lv_icmp_ne (tgt := 48) hx hb dX5_gainOf_40 (by decide) (fun c4 => ?_) (fun c4 => ?_)
    · have hf := if_of_pos hf c4
      refine lv_lconst (v := 0) hx hb dX5_gainOf_48 (by decide) ?_
      cases hf
      exact ret_l hC hR hS dX5_gainOf_49
    · have hf := if_of_neg hf (fun q => q c4)
      refine lv_lload_n hx hb dX5_gainOf_43 rfl (lv_at hl 0 rfl) ?_
      refine lv_lneg hx hb dX5_gainOf_44 ?_
      refine lv_goto (tgt := 49) hx hb dX5_gainOf_45 (by decide) ?_
      cases hf
      exact ret_l hC hR hS dX5_gainOf_49
  · have hf := if_of_neg hf (fun q => q c3)
    refine lv_lload_n hx hb dX5_gainOf_33 rfl (lv_at hl 0 rfl) ?_
    cases hf
    exact ret_l hC hR hS dX5_gainOf_34
def fX5_isBetter (σ : St) (a1 : Nat) (a2 : Nat) : Option (Int32) := if (gI σ 33 a1 0) = 0 then if (gI σ 34 a2 0) ≤ (gI σ 34 a1 0) then some (0) else some (1) else if (gI σ 34 a1 0) ≤ (gI σ 34 a2 0) then some (0) else some (1)
set_option maxHeartbeats 4000000 in
set_option maxRecDepth 100000 in
theorem mX5_isBetter (l : Launch) (D : va_G) (dA : Nat → ClassId) (ad : Nat → Nat → Nat) (σ : St) (sz : Nat) (a1 : Nat) (a2 : Nat) (r : Int32) (hf : fX5_isBetter σ a1 a2 = some r) (ha1 : cvC σ 17 a1) (ha2 : cvC σ 17 a2) : Met l yX5_isBetter (WSy yX5_isBetter cX5_isBetter 2 (some .boolean)) ({ frames := 0, cells := 0, slots := 0, locals := 0 } : Room) (va_Pc [.ref (ad 17 a1), .ref (ad 17 a2)] (fun U => U.heap.size = sz ∧ HC D dA (fun _ => True) ad σ U.heap ∧ KS D dA U)) (va_Qi (fun (x : Int32) (_ : Unit) => x = r) (fun _ t => HC D dA (WA ad (cvC σ) sz) ad σ t.heap) (WA ad (cvC σ) sz)) 0 0 (WA ad (cvC σ) sz) := by
  refine met_of (by decide) (Nat.le_of_ble_eq_true rfl) ?_
  intro p e s m below meth c ls hC hB hl
  obtain ⟨rfl, hR, hK⟩ := hB
  have hA : ∀ q : Nat, s.heap.size ≤ q → WA ad (cvC σ) s.heap.size q := fun q h => Or.inr h
  have hR := WW_fit (B := WA ad (cvC σ) s.heap.size) hR (fun f i h => WA_in h)
  have hS : va_S (WA ad (cvC σ) s.heap.size) s.heap s.heap [] := va_S.rf
  generalize WA ad (cvC σ) s.heap.size = A0 at hA hR hS ⊢
  have hC : CTX p s m _ meth c cX5_isBetter 2 RX5 (some .boolean) := hC
  obtain ⟨hx, hb, hml, hown, hts, hr, hlk⟩ := id hC
  have hl : lv_has ls 2 [(0, .ref (ad 17 a1)), (1, .ref (ad 17 a2))] := hl
  unfold fX5_isBetter at hf
  refine lv_aload_n hx hb dX5_isBetter_0 rfl (lv_at hl 0 rfl) ?_
  refine va_getN (D := D) (ci := 3) (C := RX2) (T := TX2) (N := 6) hx hb hts iuX2 hown hK.1 (WW_one hR (f := 17) (i := a1) ha1) 0 rfl rfl 3 (by decide) (nw_f hK.2 q_432) (fun _ h9 => h9) rfl dX5_isBetter_1 ?_
  refine lv_if_eq (tgt := 26) hx hb dX5_isBetter_4 (by decide) (fun c1 => ?_) (fun c1 => ?_)
  · have hf := if_of_pos hf c1
    refine lv_aload_n hx hb dX5_isBetter_26 rfl (lv_at hl 0 rfl) ?_
    refine va_getN (D := D) (ci := 3) (C := RX2) (T := TX2) (N := 6) hx hb hts iuX2 hown hK.1 (WW_one hR (f := 17) (i := a1) ha1) 0 rfl rfl 4 (by decide) (nw_f hK.2 q_434) (fun _ h9 => h9) rfl dX5_isBetter_27 ?_
    refine lv_aload_n hx hb dX5_isBetter_30 rfl (lv_at hl 1 rfl) ?_
    refine va_getN (D := D) (ci := 3) (C := RX2) (T := TX2) (N := 6) hx hb hts iuX2 hown hK.1 (WW_one hR (f := 17) (i := a2) ha2) 0 rfl rfl 4 (by decide) (nw_f hK.2 q_434) (fun _ h9 => h9) rfl dX5_isBetter_31 ?_
    refine lv_icmp_ge (tgt := 41) hx hb dX5_isBetter_34 (by decide) (fun c2 => ?_) (fun c2 => ?_)
    · have hf := if_of_pos hf c2
      refine lv_iconst (v := 0) hx hb dX5_isBetter_41 (by decide) ?_
      cases hf
      exact ret_z hC hR hS (by decide) dX5_isBetter_42
    · have hf := if_of_neg hf c2
      refine lv_iconst (v := 1) hx hb dX5_isBetter_37 (by decide) ?_
      refine lv_goto (tgt := 42) hx hb dX5_isBetter_38 (by decide) ?_
      cases hf
      exact ret_z hC hR hS (by decide) dX5_isBetter_42
  · have hf := if_of_neg hf c1
    refine lv_aload_n hx hb dX5_isBetter_7 rfl (lv_at hl 0 rfl) ?_
    refine va_getN (D := D) (ci := 3) (C := RX2) (T := TX2) (N := 6) hx hb hts iuX2 hown hK.1 (WW_one hR (f := 17) (i := a1) ha1) 0 rfl rfl 4 (by decide) (nw_f hK.2 q_434) (fun _ h9 => h9) rfl dX5_isBetter_8 ?_
    refine lv_aload_n hx hb dX5_isBetter_11 rfl (lv_at hl 1 rfl) ?_
    refine va_getN (D := D) (ci := 3) (C := RX2) (T := TX2) (N := 6) hx hb hts iuX2 hown hK.1 (WW_one hR (f := 17) (i := a2) ha2) 0 rfl rfl 4 (by decide) (nw_f hK.2 q_434) (fun _ h9 => h9) rfl dX5_isBetter_12 ?_
    refine lv_icmp_le (tgt := 22) hx hb dX5_isBetter_15 (by decide) (fun c3 => ?_) (fun c3 => ?_)
    · have hf := if_of_pos hf c3
      refine lv_iconst (v := 0) hx hb dX5_isBetter_22 (by decide) ?_
      refine lv_goto (tgt := 42) hx hb dX5_isBetter_23 (by decide) ?_
      cases hf
      exact ret_z hC hR hS (by decide) dX5_isBetter_42
    · have hf := if_of_neg hf c3
      refine lv_iconst (v := 1) hx hb dX5_isBetter_18 (by decide) ?_
      refine lv_goto (tgt := 42) hx hb dX5_isBetter_19 (by decide) ?_
      cases hf
      exact ret_z hC hR hS (by decide) dX5_isBetter_42
def fX5_meet (σ : St) (a1 : Nat) (a2 : Nat) : Option (Int32) := if (gI σ 33 a1 0) = 0 then if (gI σ 34 a2 0) < (gI σ 34 a1 0) then some (0) else some (1) else if (gI σ 34 a1 0) < (gI σ 34 a2 0) then some (0) else some (1)
set_option maxHeartbeats 4000000 in
set_option maxRecDepth 100000 in
theorem mX5_meet (l : Launch) (D : va_G) (dA : Nat → ClassId) (ad : Nat → Nat → Nat) (σ : St) (sz : Nat) (a1 : Nat) (a2 : Nat) (r : Int32) (hf : fX5_meet σ a1 a2 = some r) (ha1 : cvC σ 17 a1) (ha2 : cvC σ 17 a2) : Met l yX5_meet (WSy yX5_meet cX5_meet 2 (some .boolean)) ({ frames := 0, cells := 0, slots := 0, locals := 0 } : Room) (va_Pc [.ref (ad 17 a1), .ref (ad 17 a2)] (fun U => U.heap.size = sz ∧ HC D dA (fun _ => True) ad σ U.heap ∧ KS D dA U)) (va_Qi (fun (x : Int32) (_ : Unit) => x = r) (fun _ t => HC D dA (WA ad (cvC σ) sz) ad σ t.heap) (WA ad (cvC σ) sz)) 0 0 (WA ad (cvC σ) sz) := by
  refine met_of (by decide) (Nat.le_of_ble_eq_true rfl) ?_
  intro p e s m below meth c ls hC hB hl
  obtain ⟨rfl, hR, hK⟩ := hB
  have hA : ∀ q : Nat, s.heap.size ≤ q → WA ad (cvC σ) s.heap.size q := fun q h => Or.inr h
  have hR := WW_fit (B := WA ad (cvC σ) s.heap.size) hR (fun f i h => WA_in h)
  have hS : va_S (WA ad (cvC σ) s.heap.size) s.heap s.heap [] := va_S.rf
  generalize WA ad (cvC σ) s.heap.size = A0 at hA hR hS ⊢
  have hC : CTX p s m _ meth c cX5_meet 2 RX5 (some .boolean) := hC
  obtain ⟨hx, hb, hml, hown, hts, hr, hlk⟩ := id hC
  have hl : lv_has ls 2 [(0, .ref (ad 17 a1)), (1, .ref (ad 17 a2))] := hl
  unfold fX5_meet at hf
  refine lv_aload_n hx hb dX5_meet_0 rfl (lv_at hl 0 rfl) ?_
  refine va_getN (D := D) (ci := 3) (C := RX2) (T := TX2) (N := 6) hx hb hts iuX2 hown hK.1 (WW_one hR (f := 17) (i := a1) ha1) 0 rfl rfl 3 (by decide) (nw_f hK.2 q_432) (fun _ h9 => h9) rfl dX5_meet_1 ?_
  refine lv_if_eq (tgt := 26) hx hb dX5_meet_4 (by decide) (fun c1 => ?_) (fun c1 => ?_)
  · have hf := if_of_pos hf c1
    refine lv_aload_n hx hb dX5_meet_26 rfl (lv_at hl 0 rfl) ?_
    refine va_getN (D := D) (ci := 3) (C := RX2) (T := TX2) (N := 6) hx hb hts iuX2 hown hK.1 (WW_one hR (f := 17) (i := a1) ha1) 0 rfl rfl 4 (by decide) (nw_f hK.2 q_434) (fun _ h9 => h9) rfl dX5_meet_27 ?_
    refine lv_aload_n hx hb dX5_meet_30 rfl (lv_at hl 1 rfl) ?_
    refine va_getN (D := D) (ci := 3) (C := RX2) (T := TX2) (N := 6) hx hb hts iuX2 hown hK.1 (WW_one hR (f := 17) (i := a2) ha2) 0 rfl rfl 4 (by decide) (nw_f hK.2 q_434) (fun _ h9 => h9) rfl dX5_meet_31 ?_
    refine lv_icmp_gt (tgt := 41) hx hb dX5_meet_34 (by decide) (fun c2 => ?_) (fun c2 => ?_)
    · have hf := if_of_pos hf c2
      refine lv_iconst (v := 0) hx hb dX5_meet_41 (by decide) ?_
      cases hf
      exact ret_z hC hR hS (by decide) dX5_meet_42
    · have hf := if_of_neg hf c2
      refine lv_iconst (v := 1) hx hb dX5_meet_37 (by decide) ?_
      refine lv_goto (tgt := 42) hx hb dX5_meet_38 (by decide) ?_
      cases hf
      exact ret_z hC hR hS (by decide) dX5_meet_42
  · have hf := if_of_neg hf c1
    refine lv_aload_n hx hb dX5_meet_7 rfl (lv_at hl 0 rfl) ?_
    refine va_getN (D := D) (ci := 3) (C := RX2) (T := TX2) (N := 6) hx hb hts iuX2 hown hK.1 (WW_one hR (f := 17) (i := a1) ha1) 0 rfl rfl 4 (by decide) (nw_f hK.2 q_434) (fun _ h9 => h9) rfl dX5_meet_8 ?_
    refine lv_aload_n hx hb dX5_meet_11 rfl (lv_at hl 1 rfl) ?_
    refine va_getN (D := D) (ci := 3) (C := RX2) (T := TX2) (N := 6) hx hb hts iuX2 hown hK.1 (WW_one hR (f := 17) (i := a2) ha2) 0 rfl rfl 4 (by decide) (nw_f hK.2 q_434) (fun _ h9 => h9) rfl dX5_meet_12 ?_
    refine lv_icmp_lt (tgt := 22) hx hb dX5_meet_15 (by decide) (fun c3 => ?_) (fun c3 => ?_)
    · have hf := if_of_pos hf c3
      refine lv_iconst (v := 0) hx hb dX5_meet_22 (by decide) ?_
      refine lv_goto (tgt := 42) hx hb dX5_meet_23 (by decide) ?_
      cases hf
      exact ret_z hC hR hS (by decide) dX5_meet_42
    · have hf := if_of_neg hf c3
      refine lv_iconst (v := 1) hx hb dX5_meet_18 (by decide) ?_
      refine lv_goto (tgt := 42) hx hb dX5_meet_19 (by decide) ?_
      cases hf
      exact ret_z hC hR hS (by decide) dX5_meet_42
def fX5_partOf (σ : St) (a1 : Int64) (a2 : Int64) (a3 : Int64) : Option (Int64) := if a3 ≤ a1 then some (a2) else if 1 ≤ a3 then gd (¬ a3 = 0) (some ((a1 * a2) / a3)) else some (a2)
set_option maxHeartbeats 4000000 in
set_option maxRecDepth 100000 in
theorem mX5_partOf (l : Launch) (D : va_G) (dA : Nat → ClassId) (ad : Nat → Nat → Nat) (σ : St) (sz : Nat) (a1 : Int64) (a2 : Int64) (a3 : Int64) (r : Int64) (hf : fX5_partOf σ a1 a2 a3 = some r) : Met l yX5_partOf (WSy yX5_partOf cX5_partOf 6 (some .long)) ({ frames := 0, cells := 0, slots := 0, locals := 0 } : Room) (va_Pc [.long a1, .long a2, .long a3] (fun U => U.heap.size = sz ∧ HC D dA (fun _ => True) ad σ U.heap ∧ KS D dA U)) (va_Ql (fun (x : Int64) (_ : Unit) => x = r) (fun _ t => HC D dA (WA ad (cvC σ) sz) ad σ t.heap) (WA ad (cvC σ) sz)) 0 0 (WA ad (cvC σ) sz) := by
  refine met_of (by decide) (Nat.le_of_ble_eq_true rfl) ?_
  intro p e s m below meth c ls hC hB hl
  obtain ⟨rfl, hR, hK⟩ := hB
  have hA : ∀ q : Nat, s.heap.size ≤ q → WA ad (cvC σ) s.heap.size q := fun q h => Or.inr h
  have hR := WW_fit (B := WA ad (cvC σ) s.heap.size) hR (fun f i h => WA_in h)
  have hS : va_S (WA ad (cvC σ) s.heap.size) s.heap s.heap [] := va_S.rf
  generalize WA ad (cvC σ) s.heap.size = A0 at hA hR hS ⊢
  have hC : CTX p s m _ meth c cX5_partOf 6 RX5 (some .long) := hC
  obtain ⟨hx, hb, hml, hown, hts, hr, hlk⟩ := id hC
  have hl : lv_has ls 6 [(0, .long a1), (2, .long a2), (4, .long a3)] := hl
  unfold fX5_partOf at hf
  refine lv_lload hx hb dX5_partOf_0 (lv_at hl 2 rfl) ?_
  refine lv_lload_n hx hb dX5_partOf_2 rfl (lv_at hl 0 rfl) ?_
  refine W.lcmp hx hb dX5_partOf_3 ?_
  refine lv_if_le (tgt := 14) hx hb dX5_partOf_4 (by decide) (fun c10 => ?_) (fun c10 => ?_)
  · have c1 : a3 ≤ a1 := (lg_cmp_le _ _).mp c10
    have hf := if_of_pos hf c1
    refine lv_lload_n hx hb dX5_partOf_14 rfl (lv_at hl 1 rfl) ?_
    cases hf
    exact ret_l hC hR hS dX5_partOf_15
  · have c1 : ¬ (a3 ≤ a1) := fun q => c10 ((lg_cmp_le _ _).mpr q)
    have hf := if_of_neg hf c1
    refine lv_lload hx hb dX5_partOf_7 (lv_at hl 2 rfl) ?_
    refine lv_lconst (v := 1) hx hb dX5_partOf_9 (by decide) ?_
    refine W.lcmp hx hb dX5_partOf_10 ?_
    refine lv_if_ge (tgt := 16) hx hb dX5_partOf_11 (by decide) (fun c20 => ?_) (fun c20 => ?_)
    · have c2 : 1 ≤ a3 := (lg_cmp_ge _ _).mp c20
      have hf := if_of_pos hf c2
      refine lv_lload_n hx hb dX5_partOf_16 rfl (lv_at hl 0 rfl) ?_
      refine lv_lload_n hx hb dX5_partOf_17 rfl (lv_at hl 1 rfl) ?_
      refine lv_lmul hx hb dX5_partOf_18 ?_
      refine lv_lload hx hb dX5_partOf_19 (lv_at hl 2 rfl) ?_
      obtain ⟨g3, hf⟩ := gd_of hf
      refine lv_ldiv hx hb dX5_partOf_21 g3 ?_
      cases hf
      exact ret_l hC hR hS dX5_partOf_22
    · have c2 : ¬ (1 ≤ a3) := fun q => c20 ((lg_cmp_ge _ _).mpr q)
      have hf := if_of_neg hf c2
      refine lv_lload_n hx hb dX5_partOf_14 rfl (lv_at hl 1 rfl) ?_
      cases hf
      exact ret_l hC hR hS dX5_partOf_15
def fX5_takeFromShare (σ : St) (a1 : Nat) (a2 : Int64) : Option (Int64 × St) := kst ((if (gL σ 1 a1 0) < a2 then (gL σ 1 a1 0) else a2)) (fun x1 => some ((x1, pL σ 1 a1 0 ((gL σ 1 a1 0) - x1))))
set_option maxHeartbeats 4000000 in
set_option maxRecDepth 100000 in
theorem mX5_takeFromShare (l : Launch) (D : va_G) (dA : Nat → ClassId) (ad : Nat → Nat → Nat) (σ : St) (sz : Nat) (a1 : Nat) (a2 : Int64) (r : Int64) (σ' : St) (hf : fX5_takeFromShare σ a1 a2 = some (r, σ')) (ha1 : cvC σ 2 a1) : Met l yX5_takeFromShare (WSy yX5_takeFromShare cX5_takeFromShare 5 (some .long)) ({ frames := 1, cells := 0, slots := 0, locals := 23 } : Room) (va_Pc [.ref (ad 2 a1), .long a2] (fun U => U.heap.size = sz ∧ HC D dA (fun _ => True) ad σ U.heap ∧ KS D dA U)) (va_Ql (fun (x : Int64) (_ : Unit) => x = r) (fun _ t => HC D dA (WA ad (cvC σ) sz) ad σ' t.heap) (WA ad (cvC σ) sz)) 0 0 (WA ad (cvC σ) sz) := by
  refine met_of (by decide) (Nat.le_of_ble_eq_true rfl) ?_
  intro p e s m below meth c ls hC hB hl
  obtain ⟨rfl, hR, hK⟩ := hB
  have hA : ∀ q : Nat, s.heap.size ≤ q → WA ad (cvC σ) s.heap.size q := fun q h => Or.inr h
  have hR := WW_fit (B := WA ad (cvC σ) s.heap.size) hR (fun f i h => WA_in h)
  have hS : va_S (WA ad (cvC σ) s.heap.size) s.heap s.heap [] := va_S.rf
  generalize WA ad (cvC σ) s.heap.size = A0 at hA hR hS ⊢
  have hC : CTX p s m _ meth c cX5_takeFromShare 5 RX5 (some .long) := hC
  obtain ⟨hx, hb, hml, hown, hts, hr, hlk⟩ := id hC
  have hl : lv_has ls 5 [(0, .ref (ad 2 a1)), (1, .long a2)] := hl
  unfold fX5_takeFromShare at hf
  refine lv_lload_n hx hb dX5_takeFromShare_0 rfl (lv_at hl 1 rfl) ?_
  refine lv_aload_n hx hb dX5_takeFromShare_1 rfl (lv_at hl 0 rfl) ?_
  refine va_getN (D := D) (ci := 1) (C := RX0) (T := TX0) (N := 8) hx hb hts iuX0 hown hK.1 (WW_one hR (f := 2) (i := a1) ha1) 0 rfl rfl 1 (by decide) (nw_f hK.2 q_103) (fun _ h9 => h9) rfl dX5_takeFromShare_2 ?_
  refine va_mmin_long hx hb (hml.trans hl.1.symm) hown (hts _ q_756) (hts _ q_757) (hts _ q_48) (hts _ q_758) (Nat.le_of_ble_eq_true rfl) (Nat.le_of_ble_eq_true rfl) (Nat.le_of_ble_eq_true rfl) (Nat.le_of_ble_eq_true rfl) dX5_takeFromShare_5 ?_
  refine lv_topl (fun x1 hx1 => ?_)
  have hf := kst_eq hx1 hf
  refine lv_lstore_n (lv' := [(3, .long x1), (0, .ref (ad 2 a1)), (1, .long a2)]) hx hb dX5_takeFromShare_8 rfl hl (by decide) rfl (fun ls hl => ?_)
  refine lv_aload_n hx hb dX5_takeFromShare_9 rfl (lv_at hl 1 rfl) ?_
  refine lv_dup hx hb dX5_takeFromShare_10 rfl ?_
  refine va_getN (D := D) (ci := 1) (C := RX0) (T := TX0) (N := 8) hx hb hts iuX0 hown hK.1 (WW_one hR (f := 2) (i := a1) ha1) 0 rfl rfl 1 (by decide) (nw_f hK.2 q_103) (fun _ h9 => h9) rfl dX5_takeFromShare_11 ?_
  refine lv_lload_n hx hb dX5_takeFromShare_14 rfl (lv_at hl 0 rfl) ?_
  refine lv_lsub hx hb dX5_takeFromShare_15 ?_
  refine ww_putN (D := D) (ci := 1) (C := RX0) (T := TX0) (N := 8) (ty := .long) hx hb hts iuX0 tyX0 tyX0_ok nmX0 hown hK.1 hR hS (f := 2) (i := a1) ha1 rfl rfl 1 (by decide) (nw_f hK.2 q_103) (fun _ h9 => h9) rfl (by decide +kernel) rfl rfl (Nat.le_of_ble_eq_true rfl) dX5_takeFromShare_16 (fun H locs hR hS => ?_)
  have hR := HC_Account_share a1 ((gL σ 1 a1 0) - x1) hR
  refine lv_lload_n hx hb dX5_takeFromShare_19 rfl (lv_at hl 0 rfl) ?_
  cases hf
  exact ret_l hC hR hS dX5_takeFromShare_20
def fX5_sharesOfOthers_L4 (σ : St) : Nat → Int32 → Int64 → Option (Int64)
  | 0, _, _ => none
  | n + 1, v3, v1 => if 5 ≤ v3 then some (v1) else gd (vin v3 5) (if (gI σ 0 v3.toNatClampNeg 0) = 0 then kst (v1 + (gL σ 1 v3.toNatClampNeg 0)) (fun x4 => kst (v3 + 1) (fun x5 => fX5_sharesOfOthers_L4 σ n x5 x4)) else kst (v1 + 0) (fun x6 => kst (v3 + 1) (fun x7 => fX5_sharesOfOthers_L4 σ n x7 x6)))
set_option maxHeartbeats 4000000 in
set_option maxRecDepth 100000 in
theorem wX5_sharesOfOthers_L4 {p : Program} {l : Launch} {e : Env} {s : State} {m : MethodId} {args : Array Value} {below : List Frame} {meth : Method} {c : Code} {D : va_G} {dA : Nat → ClassId} {A0 : Nat → Prop} {ad : Nat → Nat → Nat} {r : Int64} {σ : St} (hC : CTX p s m args meth c cX5_sharesOfOthers 4 RX5 (some .long)) (hK : KS D dA s) (hA : ∀ q, s.heap.size ≤ q → A0 q) : ∀ (n : Nat) (H : Heap) (locs : List Loc) (ls : Array Slot) (v3 : Int32) (v1 : Int64), HC D dA A0 ad σ H → va_S A0 s.heap H locs → lv_has ls 4 [(3, .int v3), (1, .long v1), (0, .ref (ad 0 0))] → fX5_sharesOfOthers_L4 σ n v3 v1 = some r → W p l e ({ frames := 0, cells := 0, slots := 0, locals := 0 } : Room) s m args below meth c H locs 0 0 (MQ below (va_Ql (fun (x : Int64) (_ : Unit) => x = r) (fun _ t => HC D dA A0 ad σ t.heap) A0) args s 0 0 A0) (F0 m 4 ls []) := by
  obtain ⟨hx, hb, hml, hown, hts, hr, hlk⟩ := id hC
  intro n
  induction n with
  | zero =>
    intro H locs ls v3 v1 hR hS hl hf
    rw [fX5_sharesOfOthers_L4.eq_1] at hf
    cases hf
  | succ n ih =>
    intro H locs ls v3 v1 hR hS hl hf
    rw [fX5_sharesOfOthers_L4.eq_2] at hf
    refine lv_iload_n hx hb dX5_sharesOfOthers_4 rfl (lv_at hl 0 rfl) ?_
    refine lv_iconst (v := 5) hx hb dX5_sharesOfOthers_5 (by decide) ?_
    refine lv_icmp_ge (tgt := 43) hx hb dX5_sharesOfOthers_6 (by decide) (fun c1 => ?_) (fun c1 => ?_)
    · have hf := if_of_pos hf c1
      refine lv_lload_n hx hb dX5_sharesOfOthers_43 rfl (lv_at hl 1 rfl) ?_
      cases hf
      exact ret_l hC hR hS dX5_sharesOfOthers_44
    · have hf := if_of_neg hf c1
      refine lv_lload_n hx hb dX5_sharesOfOthers_9 rfl (lv_at hl 1 rfl) ?_
      refine lv_aload_n hx hb dX5_sharesOfOthers_10 rfl (lv_at hl 2 rfl) ?_
      refine va_get (D := D) (ci := 6) (C := RX5) (T := TX5) (N := 8) hx hb hts iuX5 hown hK.1 (WW_one hR (f := 0) (i := 0) rfl) 0 rfl rfl 0 (by decide) (hts _ q_164) (fun _ h9 => h9) rfl dX5_sharesOfOthers_11 ?_
      refine lv_iload_n hx hb dX5_sharesOfOthers_14 rfl (lv_at hl 0 rfl) ?_
      obtain ⟨g2, hf⟩ := gd_of hf
      refine va_aldq (C := RX0) hx hb hK.1 (WW_one hR (f := 1) (i := 0) rfl) 0 3 rfl rfl g2 dX5_sharesOfOthers_15 ?_
      refine va_getN (D := D) (ci := 1) (C := RX0) (T := TX0) (N := 8) hx hb hts iuX0 hown hK.1 (WW_one hR (f := 2) (i := v3.toNatClampNeg) (vin_lt g2)) 0 rfl rfl 3 (by decide) (nw_f hK.2 q_105) (fun _ h9 => h9) rfl dX5_sharesOfOthers_16 ?_
      refine lv_if_eq (tgt := 26) hx hb dX5_sharesOfOthers_19 (by decide) (fun c3 => ?_) (fun c3 => ?_)
      · have hf := if_of_pos hf c3
        refine lv_aload_n hx hb dX5_sharesOfOthers_26 rfl (lv_at hl 2 rfl) ?_
        refine va_get (D := D) (ci := 6) (C := RX5) (T := TX5) (N := 8) hx hb hts iuX5 hown hK.1 (WW_one hR (f := 0) (i := 0) rfl) 0 rfl rfl 0 (by decide) (hts _ q_164) (fun _ h9 => h9) rfl dX5_sharesOfOthers_27 ?_
        refine lv_iload_n hx hb dX5_sharesOfOthers_30 rfl (lv_at hl 0 rfl) ?_
        refine va_aldq (C := RX0) hx hb hK.1 (WW_one hR (f := 1) (i := 0) rfl) 0 3 rfl rfl g2 dX5_sharesOfOthers_31 ?_
        refine va_getN (D := D) (ci := 1) (C := RX0) (T := TX0) (N := 8) hx hb hts iuX0 hown hK.1 (WW_one hR (f := 2) (i := v3.toNatClampNeg) (vin_lt g2)) 0 rfl rfl 1 (by decide) (nw_f hK.2 q_103) (fun _ h9 => h9) rfl dX5_sharesOfOthers_32 ?_
        refine lv_ladd hx hb dX5_sharesOfOthers_35 ?_
        refine lv_topl (fun x4 hx4 => ?_)
        have hf := kst_eq hx4 hf
        refine lv_lstore_n (lv' := [(1, .long x4), (3, .int v3), (0, .ref (ad 0 0))]) hx hb dX5_sharesOfOthers_36 rfl hl (by decide) rfl (fun ls hl => ?_)
        obtain ⟨x5, hx5⟩ : ∃ y : Int32, y = v3 + 1 := ⟨_, rfl⟩
        have hf := kst_eq hx5 hf
        refine lv_iinc (v := x5) (lv' := [(3, .int x5), (1, .long x4), (0, .ref (ad 0 0))]) hx hb dX5_sharesOfOthers_37 hl (k := 1) rfl (by rw [hx5]; rfl) (by decide) rfl (fun ls hl => ?_)
        refine lv_goto (tgt := 4) hx hb dX5_sharesOfOthers_40 (by decide) ?_
        exact ih _ _ _ x5 x4 hR hS (lv_sub hl [0, 1, 2] rfl) hf
      · have hf := if_of_neg hf c3
        refine lv_lconst (v := 0) hx hb dX5_sharesOfOthers_22 (by decide) ?_
        refine lv_goto (tgt := 35) hx hb dX5_sharesOfOthers_23 (by decide) ?_
        refine lv_ladd hx hb dX5_sharesOfOthers_35 ?_
        refine lv_topl (fun x6 hx6 => ?_)
        have hf := kst_eq hx6 hf
        refine lv_lstore_n (lv' := [(1, .long x6), (3, .int v3), (0, .ref (ad 0 0))]) hx hb dX5_sharesOfOthers_36 rfl hl (by decide) rfl (fun ls hl => ?_)
        obtain ⟨x7, hx7⟩ : ∃ y : Int32, y = v3 + 1 := ⟨_, rfl⟩
        have hf := kst_eq hx7 hf
        refine lv_iinc (v := x7) (lv' := [(3, .int x7), (1, .long x6), (0, .ref (ad 0 0))]) hx hb dX5_sharesOfOthers_37 hl (k := 1) rfl (by rw [hx7]; rfl) (by decide) rfl (fun ls hl => ?_)
        refine lv_goto (tgt := 4) hx hb dX5_sharesOfOthers_40 (by decide) ?_
        exact ih _ _ _ x7 x6 hR hS (lv_sub hl [0, 1, 2] rfl) hf
def fX5_sharesOfOthers (σ : St) : Option (Int64) := fX5_sharesOfOthers_L4 σ 1000 0 0
set_option maxHeartbeats 4000000 in
set_option maxRecDepth 100000 in
theorem mX5_sharesOfOthers (l : Launch) (D : va_G) (dA : Nat → ClassId) (ad : Nat → Nat → Nat) (σ : St) (sz : Nat) (r : Int64) (hf : fX5_sharesOfOthers σ = some r) : Met l yX5_sharesOfOthers (WSy yX5_sharesOfOthers cX5_sharesOfOthers 4 (some .long)) ({ frames := 0, cells := 0, slots := 0, locals := 0 } : Room) (va_Pc [.ref (ad 0 0)] (fun U => U.heap.size = sz ∧ HC D dA (fun _ => True) ad σ U.heap ∧ KS D dA U)) (va_Ql (fun (x : Int64) (_ : Unit) => x = r) (fun _ t => HC D dA (WA ad (cvC σ) sz) ad σ t.heap) (WA ad (cvC σ) sz)) 0 0 (WA ad (cvC σ) sz) := by
  refine met_of (by decide) (Nat.le_of_ble_eq_true rfl) ?_
  intro p e s m below meth c ls hC hB hl
  obtain ⟨rfl, hR, hK⟩ := hB
  have hA : ∀ q : Nat, s.heap.size ≤ q → WA ad (cvC σ) s.heap.size q := fun q h => Or.inr h
  have hR := WW_fit (B := WA ad (cvC σ) s.heap.size) hR (fun f i h => WA_in h)
  have hS : va_S (WA ad (cvC σ) s.heap.size) s.heap s.heap [] := va_S.rf
  generalize WA ad (cvC σ) s.heap.size = A0 at hA hR hS ⊢
  have hC : CTX p s m _ meth c cX5_sharesOfOthers 4 RX5 (some .long) := hC
  obtain ⟨hx, hb, hml, hown, hts, hr, hlk⟩ := id hC
  have hl : lv_has ls 4 [(0, .ref (ad 0 0))] := hl
  unfold fX5_sharesOfOthers at hf
  refine lv_lconst (v := 0) hx hb dX5_sharesOfOthers_0 (by decide) ?_
  refine lv_lstore_n (lv' := [(1, .long 0), (0, .ref (ad 0 0))]) hx hb dX5_sharesOfOthers_1 rfl hl (by decide) rfl (fun ls hl => ?_)
  refine lv_iconst (v := 0) hx hb dX5_sharesOfOthers_2 (by decide) ?_
  refine lv_istore_n (lv' := [(3, .int 0), (1, .long 0), (0, .ref (ad 0 0))]) hx hb dX5_sharesOfOthers_3 rfl hl (by decide) rfl (fun ls hl => ?_)
  exact wX5_sharesOfOthers_L4 hC hK hA 1000 _ _ _ 0 0 hR hS (lv_sub hl [0, 1, 2] rfl) hf
def fX5_takeFromOthers_L63 {β : Type} (k : St → Int32 → Int64 → Int64 → Int64 → Option β) : Nat → St → Int32 → Int64 → Int64 → Int64 → Option (β)
  | 0, _, _, _, _, _ => none
  | n + 1, σ, v7, v5, v3, v1 => if 5 ≤ v7 then k σ v7 v5 v3 v1 else gd (vin v7 5) (if ¬ (gI σ 0 v7.toNatClampNeg 0) = 0 then kst (v7 + 1) (fun x6 => fX5_takeFromOthers_L63 k n σ x6 v5 v3 v1) else bd (fX5_takeFromShare σ v7.toNatClampNeg (v1 - v5)) (fun q7 => kst (v5 + q7.1) (fun x8 => kst (v7 + 1) (fun x9 => fX5_takeFromOthers_L63 k n q7.2 x9 x8 v3 v1))))
set_option maxHeartbeats 4000000 in
set_option maxRecDepth 100000 in
theorem wX5_takeFromOthers_L63 {p : Program} {l : Launch} {e : Env} {s : State} {m : MethodId} {args : Array Value} {below : List Frame} {meth : Method} {c : Code} {D : va_G} {dA : Nat → ClassId} {A0 : Nat → Prop} {ad : Nat → Nat → Nat} {β : Type} {o : β} {Q : State → Prop} {k : St → Int32 → Int64 → Int64 → Int64 → Option β} (hC : CTX p s m args meth c cX5_takeFromOthers 9 RX5 (some .long)) (hK : KS D dA s) (hA : ∀ q, s.heap.size ≤ q → A0 q) (hk : ∀ (H : Heap) (locs : List Loc) (ls : Array Slot) (σ : St) (v7 : Int32) (v5 : Int64) (v3 : Int64) (v1 : Int64), HC D dA A0 ad σ H → va_S A0 s.heap H locs → lv_has ls 9 [(7, .int v7), (5, .long v5), (3, .long v3), (0, .ref (ad 0 0)), (1, .long v1)] → k σ v7 v5 v3 v1 = some o → W p l e ({ frames := 2, cells := 0, slots := 0, locals := 47 } : Room) s m args below meth c H locs 0 0 Q (F0 m 107 ls [])) : ∀ (n : Nat) (H : Heap) (locs : List Loc) (ls : Array Slot) (σ : St) (v7 : Int32) (v5 : Int64) (v3 : Int64) (v1 : Int64), HC D dA A0 ad σ H → va_S A0 s.heap H locs → lv_has ls 9 [(7, .int v7), (5, .long v5), (3, .long v3), (0, .ref (ad 0 0)), (1, .long v1)] → fX5_takeFromOthers_L63 k n σ v7 v5 v3 v1 = some o → W p l e ({ frames := 2, cells := 0, slots := 0, locals := 47 } : Room) s m args below meth c H locs 0 0 Q (F0 m 63 ls []) := by
  obtain ⟨hx, hb, hml, hown, hts, hr, hlk⟩ := id hC
  intro n
  induction n with
  | zero =>
    intro H locs ls σ v7 v5 v3 v1 hR hS hl hf
    rw [fX5_takeFromOthers_L63.eq_1] at hf
    cases hf
  | succ n ih =>
    intro H locs ls σ v7 v5 v3 v1 hR hS hl hf
    rw [fX5_takeFromOthers_L63.eq_2] at hf
    refine lv_iload hx hb dX5_takeFromOthers_63 (lv_at hl 0 rfl) ?_
    refine lv_iconst (v := 5) hx hb dX5_takeFromOthers_65 (by decide) ?_
    refine lv_icmp_ge (tgt := 107) hx hb dX5_takeFromOthers_66 (by decide) (fun c3 => ?_) (fun c3 => ?_)
    · have hf := if_of_pos hf c3
      exact hk _ _ _ σ v7 v5 v3 v1 hR hS (lv_sub hl [0, 1, 2, 3, 4] rfl) hf
    · have hf := if_of_neg hf c3
      refine lv_aload_n hx hb dX5_takeFromOthers_69 rfl (lv_at hl 3 rfl) ?_
      refine va_get (D := D) (ci := 6) (C := RX5) (T := TX5) (N := 8) hx hb hts iuX5 hown hK.1 (WW_one hR (f := 0) (i := 0) rfl) 0 rfl rfl 0 (by decide) (hts _ q_164) (fun _ h9 => h9) rfl dX5_takeFromOthers_70 ?_
      refine lv_iload hx hb dX5_takeFromOthers_73 (lv_at hl 0 rfl) ?_
      obtain ⟨g4, hf⟩ := gd_of hf
      refine va_aldq (C := RX0) hx hb hK.1 (WW_one hR (f := 1) (i := 0) rfl) 0 3 rfl rfl g4 dX5_takeFromOthers_75 ?_
      refine va_getN (D := D) (ci := 1) (C := RX0) (T := TX0) (N := 8) hx hb hts iuX0 hown hK.1 (WW_one hR (f := 2) (i := v7.toNatClampNeg) (vin_lt g4)) 0 rfl rfl 3 (by decide) (nw_f hK.2 q_105) (fun _ h9 => h9) rfl dX5_takeFromOthers_76 ?_
      refine lv_if_ne (tgt := 101) hx hb dX5_takeFromOthers_79 (by decide) (fun c5 => ?_) (fun c5 => ?_)
      · have hf := if_of_pos hf c5
        obtain ⟨x6, hx6⟩ : ∃ y : Int32, y = v7 + 1 := ⟨_, rfl⟩
        have hf := kst_eq hx6 hf
        refine lv_iinc (v := x6) (lv' := [(7, .int x6), (5, .long v5), (3, .long v3), (0, .ref (ad 0 0)), (1, .long v1)]) hx hb dX5_takeFromOthers_101 hl (k := 0) rfl (by rw [hx6]; rfl) (by decide) rfl (fun ls hl => ?_)
        refine lv_goto (tgt := 63) hx hb dX5_takeFromOthers_104 (by decide) ?_
        exact ih _ _ _ σ x6 v5 v3 v1 hR hS (lv_sub hl [0, 1, 2, 3, 4] rfl) hf
      · have hf := if_of_neg hf (fun q => q c5)
        refine lv_lload hx hb dX5_takeFromOthers_82 (lv_at hl 1 rfl) ?_
        refine lv_aload_n hx hb dX5_takeFromOthers_84 rfl (lv_at hl 3 rfl) ?_
        refine va_get (D := D) (ci := 6) (C := RX5) (T := TX5) (N := 8) hx hb hts iuX5 hown hK.1 (WW_one hR (f := 0) (i := 0) rfl) 0 rfl rfl 0 (by decide) (hts _ q_164) (fun _ h9 => h9) rfl dX5_takeFromOthers_85 ?_
        refine lv_iload hx hb dX5_takeFromOthers_88 (lv_at hl 0 rfl) ?_
        refine va_aldq (C := RX0) hx hb hK.1 (WW_one hR (f := 1) (i := 0) rfl) 0 3 rfl rfl g4 dX5_takeFromOthers_90 ?_
        refine lv_lload_n hx hb dX5_takeFromOthers_91 rfl (lv_at hl 4 rfl) ?_
        refine lv_lload hx hb dX5_takeFromOthers_92 (lv_at hl 1 rfl) ?_
        refine lv_lsub hx hb dX5_takeFromOthers_94 ?_
        obtain ⟨q7, hcq7, hf⟩ := bd_of hf
        refine kc_l (va_runS (As := [.ref (ad 2 v7.toNatClampNeg), .long (v1 - v5)]) (rest := [.long v5]) ⟨hx, hb, hml, hown, hts⟩ (mX5_takeFromShare l D dA ad σ _ v7.toNatClampNeg (v1 - v5) q7.1 q7.2 hcq7 (vin_lt g4)) (va_cwS 2 hts gX5_314 rfl rfl rfl (by decide +kernel) ⟨Nat.le_of_ble_eq_true rfl, Nat.le_of_ble_eq_true rfl⟩) (preS_of hR hK _) rfl rfl hl.1 rfl (lv_room (Nat.le_of_ble_eq_true rfl)) dX5_takeFromOthers_95 ⟨Nat.zero_le _, Nat.zero_le _⟩) hA hR hS (fun H locs hR hS => ?_)
        refine lv_ladd hx hb dX5_takeFromOthers_98 ?_
        refine lv_topl (fun x8 hx8 => ?_)
        have hf := kst_eq hx8 hf
        refine lv_lstore (lv' := [(5, .long x8), (7, .int v7), (3, .long v3), (0, .ref (ad 0 0)), (1, .long v1)]) hx hb dX5_takeFromOthers_99 hl (by decide) rfl (fun ls hl => ?_)
        obtain ⟨x9, hx9⟩ : ∃ y : Int32, y = v7 + 1 := ⟨_, rfl⟩
        have hf := kst_eq hx9 hf
        refine lv_iinc (v := x9) (lv' := [(7, .int x9), (5, .long x8), (3, .long v3), (0, .ref (ad 0 0)), (1, .long v1)]) hx hb dX5_takeFromOthers_101 hl (k := 1) rfl (by rw [hx9]; rfl) (by decide) rfl (fun ls hl => ?_)
        refine lv_goto (tgt := 63) hx hb dX5_takeFromOthers_104 (by decide) ?_
        exact ih _ _ _ q7.2 x9 x8 v3 v1 hR hS (lv_sub hl [0, 1, 2, 3, 4] rfl) hf
def fX5_takeFromOthers_L11 : Nat → St → Int32 → Int64 → Int64 → Int64 → Option (Int64 × St)
  | 0, _, _, _, _, _ => none
  | n + 1, σ, v7, v5, v3, v1 => if 5 ≤ v7 then fX5_takeFromOthers_L63 (fun s10 y11 y12 y13 y14 => some ((y12, s10))) 1000 σ 0 v5 v3 v1 else gd (vin v7 5) (if ¬ (gI σ 0 v7.toNatClampNeg 0) = 0 then kst (v7 + 1) (fun x17 => fX5_takeFromOthers_L11 n σ x17 v5 v3 v1) else bd (fX5_partOf σ v1 (gL σ 1 v7.toNatClampNeg 0) v3) (fun q18 => bd (fX5_takeFromShare σ v7.toNatClampNeg q18) (fun q19 => kst (v5 + q19.1) (fun x20 => kst (v7 + 1) (fun x21 => fX5_takeFromOthers_L11 n q19.2 x21 x20 v3 v1)))))
set_option maxHeartbeats 4000000 in
set_option maxRecDepth 100000 in
theorem wX5_takeFromOthers_L11 {p : Program} {l : Launch} {e : Env} {s : State} {m : MethodId} {args : Array Value} {below : List Frame} {meth : Method} {c : Code} {D : va_G} {dA : Nat → ClassId} {A0 : Nat → Prop} {ad : Nat → Nat → Nat} {r : Int64} {σ' : St}  (hC : CTX p s m args meth c cX5_takeFromOthers 9 RX5 (some .long)) (hK : KS D dA s) (hA : ∀ q, s.heap.size ≤ q → A0 q) : ∀ (n : Nat) (H : Heap) (locs : List Loc) (ls : Array Slot) (σ : St) (v7 : Int32) (v5 : Int64) (v3 : Int64) (v1 : Int64), HC D dA A0 ad σ H → va_S A0 s.heap H locs → lv_has ls 9 [(7, .int v7), (5, .long v5), (3, .long v3), (0, .ref (ad 0 0)), (1, .long v1)] → fX5_takeFromOthers_L11 n σ v7 v5 v3 v1 = some (r, σ') → W p l e ({ frames := 2, cells := 0, slots := 0, locals := 47 } : Room) s m args below meth c H locs 0 0 (MQ below (va_Ql (fun (x : Int64) (_ : Unit) => x = r) (fun _ t => HC D dA A0 ad σ' t.heap) A0) args s 0 0 A0) (F0 m 11 ls []) := by
  obtain ⟨hx, hb, hml, hown, hts, hr, hlk⟩ := id hC
  intro n
  induction n with
  | zero =>
    intro H locs ls σ v7 v5 v3 v1 hR hS hl hf
    rw [fX5_takeFromOthers_L11.eq_1] at hf
    cases hf
  | succ n ih =>
    intro H locs ls σ v7 v5 v3 v1 hR hS hl hf
    rw [fX5_takeFromOthers_L11.eq_2] at hf
    refine lv_iload hx hb dX5_takeFromOthers_11 (lv_at hl 0 rfl) ?_
    refine lv_iconst (v := 5) hx hb dX5_takeFromOthers_13 (by decide) ?_
    refine lv_icmp_ge (tgt := 60) hx hb dX5_takeFromOthers_14 (by decide) (fun c2 => ?_) (fun c2 => ?_)
    · have hf := if_of_pos hf c2
      refine lv_iconst (v := 0) hx hb dX5_takeFromOthers_60 (by decide) ?_
      refine lv_istore (lv' := [(7, .int 0), (5, .long v5), (3, .long v3), (0, .ref (ad 0 0)), (1, .long v1)]) hx hb dX5_takeFromOthers_61 hl (by decide) rfl (fun ls hl => ?_)
      refine wX5_takeFromOthers_L63 hC hK hA (fun H locs ls s10 y11 y12 y13 y14 hR hS hl hf => ?_) 1000 _ _ _ σ 0 v5 v3 v1 hR hS (lv_sub hl [0, 1, 2, 3, 4] rfl) hf
      refine lv_lload hx hb dX5_takeFromOthers_107 (lv_at hl 1 rfl) ?_
      cases hf
      exact ret_l hC hR hS dX5_takeFromOthers_109
    · have hf := if_of_neg hf c2
      refine lv_aload_n hx hb dX5_takeFromOthers_17 rfl (lv_at hl 3 rfl) ?_
      refine va_get (D := D) (ci := 6) (C := RX5) (T := TX5) (N := 8) hx hb hts iuX5 hown hK.1 (WW_one hR (f := 0) (i := 0) rfl) 0 rfl rfl 0 (by decide) (hts _ q_164) (fun _ h9 => h9) rfl dX5_takeFromOthers_18 ?_
      refine lv_iload hx hb dX5_takeFromOthers_21 (lv_at hl 0 rfl) ?_
      obtain ⟨g15, hf⟩ := gd_of hf
      refine va_aldq (C := RX0) hx hb hK.1 (WW_one hR (f := 1) (i := 0) rfl) 0 3 rfl rfl g15 dX5_takeFromOthers_23 ?_
      refine lv_astore (lv' := [(8, .ref (ad 2 v7.toNatClampNeg)), (7, .int v7), (5, .long v5), (3, .long v3), (0, .ref (ad 0 0)), (1, .long v1)]) hx hb dX5_takeFromOthers_24 hl (by decide) rfl (fun ls hl => ?_)
      refine lv_aload hx hb dX5_takeFromOthers_26 (lv_at hl 0 rfl) ?_
      refine va_getN (D := D) (ci := 1) (C := RX0) (T := TX0) (N := 8) hx hb hts iuX0 hown hK.1 (WW_one hR (f := 2) (i := v7.toNatClampNeg) (vin_lt g15)) 0 rfl rfl 3 (by decide) (nw_f hK.2 q_105) (fun _ h9 => h9) rfl dX5_takeFromOthers_28 ?_
      refine lv_if_ne (tgt := 54) hx hb dX5_takeFromOthers_31 (by decide) (fun c16 => ?_) (fun c16 => ?_)
      · have hf := if_of_pos hf c16
        obtain ⟨x17, hx17⟩ : ∃ y : Int32, y = v7 + 1 := ⟨_, rfl⟩
        have hf := kst_eq hx17 hf
        refine lv_iinc (v := x17) (lv' := [(7, .int x17), (8, .ref (ad 2 v7.toNatClampNeg)), (5, .long v5), (3, .long v3), (0, .ref (ad 0 0)), (1, .long v1)]) hx hb dX5_takeFromOthers_54 hl (k := 1) rfl (by rw [hx17]; rfl) (by decide) rfl (fun ls hl => ?_)
        refine lv_goto (tgt := 11) hx hb dX5_takeFromOthers_57 (by decide) ?_
        exact ih _ _ _ σ x17 v5 v3 v1 hR hS (lv_sub hl [0, 2, 3, 4, 5] rfl) hf
      · have hf := if_of_neg hf (fun q => q c16)
        refine lv_lload hx hb dX5_takeFromOthers_34 (lv_at hl 2 rfl) ?_
        refine lv_aload hx hb dX5_takeFromOthers_36 (lv_at hl 0 rfl) ?_
        refine lv_lload_n hx hb dX5_takeFromOthers_38 rfl (lv_at hl 5 rfl) ?_
        refine lv_aload hx hb dX5_takeFromOthers_39 (lv_at hl 0 rfl) ?_
        refine va_getN (D := D) (ci := 1) (C := RX0) (T := TX0) (N := 8) hx hb hts iuX0 hown hK.1 (WW_one hR (f := 2) (i := v7.toNatClampNeg) (vin_lt g15)) 0 rfl rfl 1 (by decide) (nw_f hK.2 q_103) (fun _ h9 => h9) rfl dX5_takeFromOthers_41 ?_
        refine lv_lload_n hx hb dX5_takeFromOthers_44 rfl (lv_at hl 3 rfl) ?_
        obtain ⟨q18, hcq18, hf⟩ := bd_of hf
        refine kc_l (va_runS (As := [.long v1, .long (gL σ 1 v7.toNatClampNeg 0), .long v3]) (rest := [.ref (ad 2 v7.toNatClampNeg), .long v5]) ⟨hx, hb, hml, hown, hts⟩ (mX5_partOf l D dA ad σ _ v1 (gL σ 1 v7.toNatClampNeg 0) v3 q18 hcq18) (va_cwS 3 hts gX5_328 rfl rfl rfl (by decide +kernel) ⟨Nat.le_of_ble_eq_true rfl, Nat.le_of_ble_eq_true rfl⟩) (preS_of hR hK _) rfl rfl hl.1 rfl (lv_room (Nat.le_of_ble_eq_true rfl)) dX5_takeFromOthers_45 ⟨Nat.zero_le _, Nat.zero_le _⟩) hA hR hS (fun H locs hR hS => ?_)
        obtain ⟨q19, hcq19, hf⟩ := bd_of hf
        refine kc_l (va_runS (As := [.ref (ad 2 v7.toNatClampNeg), .long q18]) (rest := [.long v5]) ⟨hx, hb, hml, hown, hts⟩ (mX5_takeFromShare l D dA ad σ _ v7.toNatClampNeg q18 q19.1 q19.2 hcq19 (vin_lt g15)) (va_cwS 2 hts gX5_314 rfl rfl rfl (by decide +kernel) ⟨Nat.le_of_ble_eq_true rfl, Nat.le_of_ble_eq_true rfl⟩) (preS_of hR hK _) rfl rfl hl.1 rfl (lv_room (Nat.le_of_ble_eq_true rfl)) dX5_takeFromOthers_48 ⟨Nat.zero_le _, Nat.zero_le _⟩) hA hR hS (fun H locs hR hS => ?_)
        refine lv_ladd hx hb dX5_takeFromOthers_51 ?_
        refine lv_topl (fun x20 hx20 => ?_)
        have hf := kst_eq hx20 hf
        refine lv_lstore (lv' := [(5, .long x20), (8, .ref (ad 2 v7.toNatClampNeg)), (7, .int v7), (3, .long v3), (0, .ref (ad 0 0)), (1, .long v1)]) hx hb dX5_takeFromOthers_52 hl (by decide) rfl (fun ls hl => ?_)
        obtain ⟨x21, hx21⟩ : ∃ y : Int32, y = v7 + 1 := ⟨_, rfl⟩
        have hf := kst_eq hx21 hf
        refine lv_iinc (v := x21) (lv' := [(7, .int x21), (5, .long x20), (8, .ref (ad 2 v7.toNatClampNeg)), (3, .long v3), (0, .ref (ad 0 0)), (1, .long v1)]) hx hb dX5_takeFromOthers_54 hl (k := 2) rfl (by rw [hx21]; rfl) (by decide) rfl (fun ls hl => ?_)
        refine lv_goto (tgt := 11) hx hb dX5_takeFromOthers_57 (by decide) ?_
        exact ih _ _ _ q19.2 x21 x20 v3 v1 hR hS (lv_sub hl [0, 1, 3, 4, 5] rfl) hf
def fX5_takeFromOthers (σ : St) (a1 : Int64) : Option (Int64 × St) := bd (fX5_sharesOfOthers σ) (fun q1 => fX5_takeFromOthers_L11 1000 σ 0 0 q1 a1)
set_option maxHeartbeats 4000000 in
set_option maxRecDepth 100000 in
theorem mX5_takeFromOthers (l : Launch) (D : va_G) (dA : Nat → ClassId) (ad : Nat → Nat → Nat) (σ : St) (sz : Nat) (a1 : Int64) (r : Int64) (σ' : St) (hf : fX5_takeFromOthers σ a1 = some (r, σ')) : Met l yX5_takeFromOthers (WSy yX5_takeFromOthers cX5_takeFromOthers 9 (some .long)) ({ frames := 2, cells := 0, slots := 0, locals := 47 } : Room) (va_Pc [.ref (ad 0 0), .long a1] (fun U => U.heap.size = sz ∧ HC D dA (fun _ => True) ad σ U.heap ∧ KS D dA U)) (va_Ql (fun (x : Int64) (_ : Unit) => x = r) (fun _ t => HC D dA (WA ad (cvC σ) sz) ad σ' t.heap) (WA ad (cvC σ) sz)) 0 0 (WA ad (cvC σ) sz) := by
  refine met_of (by decide) (Nat.le_of_ble_eq_true rfl) ?_
  intro p e s m below meth c ls hC hB hl
  obtain ⟨rfl, hR, hK⟩ := hB
  have hA : ∀ q : Nat, s.heap.size ≤ q → WA ad (cvC σ) s.heap.size q := fun q h => Or.inr h
  have hR := WW_fit (B := WA ad (cvC σ) s.heap.size) hR (fun f i h => WA_in h)
  have hS : va_S (WA ad (cvC σ) s.heap.size) s.heap s.heap [] := va_S.rf
  generalize WA ad (cvC σ) s.heap.size = A0 at hA hR hS ⊢
  have hC : CTX p s m _ meth c cX5_takeFromOthers 9 RX5 (some .long) := hC
  obtain ⟨hx, hb, hml, hown, hts, hr, hlk⟩ := id hC
  have hl : lv_has ls 9 [(0, .ref (ad 0 0)), (1, .long a1)] := hl
  unfold fX5_takeFromOthers at hf
  refine lv_aload_n hx hb dX5_takeFromOthers_0 rfl (lv_at hl 0 rfl) ?_
  obtain ⟨q1, hcq1, hf⟩ := bd_of hf
  refine kc_l (va_runV (As := []) (rest := []) ⟨hx, hb, hml, hown, hts⟩ (mX5_sharesOfOthers l D dA ad σ _ q1 hcq1) (cwV 0 hts gX5_324 rfl rfl rfl (by decide +kernel) ⟨Nat.le_of_ble_eq_true rfl, Nat.le_of_ble_eq_true rfl⟩) (preV_of hR hK (f := 0) (i := 0) rfl rfl rfl _) rfl rfl hl.1 rfl (lv_room (Nat.le_of_ble_eq_true rfl)) dX5_takeFromOthers_1 ⟨Nat.zero_le _, Nat.zero_le _⟩) hA hR hS (fun H locs hR hS => ?_)
  refine lv_lstore_n (lv' := [(3, .long q1), (0, .ref (ad 0 0)), (1, .long a1)]) hx hb dX5_takeFromOthers_4 rfl hl (by decide) rfl (fun ls hl => ?_)
  refine lv_lconst (v := 0) hx hb dX5_takeFromOthers_5 (by decide) ?_
  refine lv_lstore (lv' := [(5, .long 0), (3, .long q1), (0, .ref (ad 0 0)), (1, .long a1)]) hx hb dX5_takeFromOthers_6 hl (by decide) rfl (fun ls hl => ?_)
  refine lv_iconst (v := 0) hx hb dX5_takeFromOthers_8 (by decide) ?_
  refine lv_istore (lv' := [(7, .int 0), (5, .long 0), (3, .long q1), (0, .ref (ad 0 0)), (1, .long a1)]) hx hb dX5_takeFromOthers_9 hl (by decide) rfl (fun ls hl => ?_)
  exact wX5_takeFromOthers_L11 hC hK hA 1000 _ _ _ σ 0 0 q1 a1 hR hS (lv_sub hl [0, 1, 2, 3, 4] rfl) hf
def fX5_coverLoss (σ : St) (a1 : Nat) : Option (St) := kst (-(gL σ 0 a1 0)) (fun x1 => bd (fX5_receiveFromOutside σ a1 x1) (fun q2 => bd (fX5_takeFromShare q2 a1 x1) (fun q3 => kst (x1 - q3.1) (fun x4 => bd (fX5_takeFromOthers q3.2 x4) (fun q5 => some (pL q5.2 20 0 0 ((gL q3.2 20 0 0) + (x4 - q5.1))))))))
set_option maxHeartbeats 4000000 in
set_option maxRecDepth 100000 in
theorem mX5_coverLoss (l : Launch) (D : va_G) (dA : Nat → ClassId) (ad : Nat → Nat → Nat) (σ : St) (sz : Nat) (a1 : Nat) (σ' : St) (hf : fX5_coverLoss σ a1 = some σ') (ha1 : cvC σ 2 a1) : Met l yX5_coverLoss (WSy yX5_coverLoss cX5_coverLoss 6 none) ({ frames := 3, cells := 0, slots := 0, locals := 75 } : Room) (va_Pc [.ref (ad 0 0), .ref (ad 2 a1)] (fun U => U.heap.size = sz ∧ HC D dA (fun _ => True) ad σ U.heap ∧ KS D dA U)) (va_Qv (fun (_ : Unit) => True) (fun _ t => HC D dA (WA ad (cvC σ) sz) ad σ' t.heap) (WA ad (cvC σ) sz)) 0 0 (WA ad (cvC σ) sz) := by
  refine met_of (by decide) (Nat.le_of_ble_eq_true rfl) ?_
  intro p e s m below meth c ls hC hB hl
  obtain ⟨rfl, hR, hK⟩ := hB
  have hA : ∀ q : Nat, s.heap.size ≤ q → WA ad (cvC σ) s.heap.size q := fun q h => Or.inr h
  have hR := WW_fit (B := WA ad (cvC σ) s.heap.size) hR (fun f i h => WA_in h)
  have hS : va_S (WA ad (cvC σ) s.heap.size) s.heap s.heap [] := va_S.rf
  generalize WA ad (cvC σ) s.heap.size = A0 at hA hR hS ⊢
  have hC : CTX p s m _ meth c cX5_coverLoss 6 RX5 none := hC
  obtain ⟨hx, hb, hml, hown, hts, hr, hlk⟩ := id hC
  have hl : lv_has ls 6 [(0, .ref (ad 0 0)), (1, .ref (ad 2 a1))] := hl
  unfold fX5_coverLoss at hf
  refine lv_aload_n hx hb dX5_coverLoss_0 rfl (lv_at hl 1 rfl) ?_
  refine va_getN (D := D) (ci := 1) (C := RX0) (T := TX0) (N := 8) hx hb hts iuX0 hown hK.1 (WW_one hR (f := 2) (i := a1) ha1) 0 rfl rfl 0 (by decide) (nw_f hK.2 q_102) (fun _ h9 => h9) rfl dX5_coverLoss_1 ?_
  refine lv_lneg hx hb dX5_coverLoss_4 ?_
  refine lv_topl (fun x1 hx1 => ?_)
  have hf := kst_eq hx1 hf
  refine lv_lstore_n (lv' := [(2, .long x1), (0, .ref (ad 0 0)), (1, .ref (ad 2 a1))]) hx hb dX5_coverLoss_5 rfl hl (by decide) rfl (fun ls hl => ?_)
  refine lv_aload_n hx hb dX5_coverLoss_6 rfl (lv_at hl 2 rfl) ?_
  refine lv_lload_n hx hb dX5_coverLoss_7 rfl (lv_at hl 0 rfl) ?_
  obtain ⟨q2, hcq2, hf⟩ := bd_of hf
  refine kc_v (va_runS (As := [.ref (ad 2 a1), .long x1]) (rest := []) ⟨hx, hb, hml, hown, hts⟩ (mX5_receiveFromOutside l D dA ad σ _ a1 x1 q2 hcq2 ha1) (va_cwS 2 hts gX5_90 rfl rfl rfl (by decide +kernel) ⟨Nat.le_of_ble_eq_true rfl, Nat.le_of_ble_eq_true rfl⟩) (preS_of hR hK _) rfl rfl hl.1 rfl (lv_room (Nat.le_of_ble_eq_true rfl)) dX5_coverLoss_8 ⟨Nat.zero_le _, Nat.zero_le _⟩) hA hR hS (fun H locs hR hS => ?_)
  refine lv_lload_n hx hb dX5_coverLoss_11 rfl (lv_at hl 0 rfl) ?_
  refine lv_aload_n hx hb dX5_coverLoss_12 rfl (lv_at hl 2 rfl) ?_
  refine lv_lload_n hx hb dX5_coverLoss_13 rfl (lv_at hl 0 rfl) ?_
  obtain ⟨q3, hcq3, hf⟩ := bd_of hf
  refine kc_l (va_runS (As := [.ref (ad 2 a1), .long x1]) (rest := [.long x1]) ⟨hx, hb, hml, hown, hts⟩ (mX5_takeFromShare l D dA ad q2 _ a1 x1 q3.1 q3.2 hcq3 ha1) (va_cwS 2 hts gX5_314 rfl rfl rfl (by decide +kernel) ⟨Nat.le_of_ble_eq_true rfl, Nat.le_of_ble_eq_true rfl⟩) (preS_of hR hK _) rfl rfl hl.1 rfl (lv_room (Nat.le_of_ble_eq_true rfl)) dX5_coverLoss_14 ⟨Nat.zero_le _, Nat.zero_le _⟩) hA hR hS (fun H locs hR hS => ?_)
  refine lv_lsub hx hb dX5_coverLoss_17 ?_
  refine lv_topl (fun x4 hx4 => ?_)
  have hf := kst_eq hx4 hf
  refine lv_lstore (lv' := [(4, .long x4), (2, .long x1), (0, .ref (ad 0 0)), (1, .ref (ad 2 a1))]) hx hb dX5_coverLoss_18 hl (by decide) rfl (fun ls hl => ?_)
  refine lv_aload_n hx hb dX5_coverLoss_20 rfl (lv_at hl 2 rfl) ?_
  refine lv_dup hx hb dX5_coverLoss_21 rfl ?_
  refine va_get (D := D) (ci := 6) (C := RX5) (T := TX5) (N := 8) hx hb hts iuX5 hown hK.1 (WW_one hR (f := 0) (i := 0) rfl) 0 rfl rfl 7 (by decide) (hts _ q_171) (fun _ h9 => h9) rfl dX5_coverLoss_22 ?_
  refine lv_lload hx hb dX5_coverLoss_25 (lv_at hl 0 rfl) ?_
  refine lv_aload_n hx hb dX5_coverLoss_27 rfl (lv_at hl 2 rfl) ?_
  refine lv_lload hx hb dX5_coverLoss_28 (lv_at hl 0 rfl) ?_
  obtain ⟨q5, hcq5, hf⟩ := bd_of hf
  refine kc_l (va_runV (As := [.long x4]) (rest := [.long x4, .long (gL q3.2 20 0 0), .ref (ad 0 0)]) ⟨hx, hb, hml, hown, hts⟩ (mX5_takeFromOthers l D dA ad q3.2 _ x4 q5.1 q5.2 hcq5) (cwV 1 hts gX5_318 rfl rfl rfl (by decide +kernel) ⟨Nat.le_of_ble_eq_true rfl, Nat.le_of_ble_eq_true rfl⟩) (preV_of hR hK (f := 0) (i := 0) rfl rfl rfl _) rfl rfl hl.1 rfl (lv_room (Nat.le_of_ble_eq_true rfl)) dX5_coverLoss_30 ⟨Nat.zero_le _, Nat.zero_le _⟩) hA hR hS (fun H locs hR hS => ?_)
  refine lv_lsub hx hb dX5_coverLoss_33 ?_
  refine lv_ladd hx hb dX5_coverLoss_34 ?_
  refine ww_put (D := D) (ci := 6) (C := RX5) (T := TX5) (N := 8) (ty := .long) hx hb hts iuX5 tyX5 tyX5_ok nmX5 hown hK.1 hR hS (f := 0) (i := 0) rfl rfl rfl 7 (by decide) (hts _ q_171) (fun _ h9 => h9) rfl (by decide +kernel) rfl rfl (Nat.le_of_ble_eq_true rfl) dX5_coverLoss_35 (fun H locs hR hS => ?_)
  have hR := HC_this_unpaidLoss 0 ((gL q3.2 20 0 0) + (x4 - q5.1)) hR
  cases hf
  exact ret_v hC hR hS dX5_coverLoss_38
def fX5_riskOf_L37 (σ : St) : Nat → Int32 → Int64 → Nat → Int64 → Int32 → Int32 → Option (Int64)
  | 0, _, _, _, _, _, _ => none
  | n + 1, v8, v6, v5, v3, v1, v2 => if 4 ≤ v8 then some (v6) else gd (vin v8 4) (kst ((if ((-v3) * (Int32.toInt64 (gI σ 8 v5 v8.toNatClampNeg))) < v6 then v6 else ((-v3) * (Int32.toInt64 (gI σ 8 v5 v8.toNatClampNeg))))) (fun x7 => kst (v8 + 1) (fun x8 => fX5_riskOf_L37 σ n x8 x7 v5 v3 v1 v2)))
set_option maxHeartbeats 4000000 in
set_option maxRecDepth 100000 in
theorem wX5_riskOf_L37 {p : Program} {l : Launch} {e : Env} {s : State} {m : MethodId} {args : Array Value} {below : List Frame} {meth : Method} {c : Code} {D : va_G} {dA : Nat → ClassId} {A0 : Nat → Prop} {ad : Nat → Nat → Nat} {r : Int64} {σ : St} (hC : CTX p s m args meth c cX5_riskOf 9 RX5 (some .long)) (hK : KS D dA s) (hA : ∀ q, s.heap.size ≤ q → A0 q) : ∀ (n : Nat) (H : Heap) (locs : List Loc) (ls : Array Slot) (v8 : Int32) (v6 : Int64) (v5 : Nat) (v3 : Int64) (v1 : Int32) (v2 : Int32) (hv5 : cvC σ 8 v5), HC D dA A0 ad σ H → va_S A0 s.heap H locs → lv_has ls 9 [(8, .int v8), (6, .long v6), (5, .ref (ad 8 v5)), (3, .long v3), (0, .ref (ad 0 0)), (1, .int v1), (2, .int v2)] → fX5_riskOf_L37 σ n v8 v6 v5 v3 v1 v2 = some r → W p l e ({ frames := 1, cells := 0, slots := 0, locals := 23 } : Room) s m args below meth c H locs 0 0 (MQ below (va_Ql (fun (x : Int64) (_ : Unit) => x = r) (fun _ t => HC D dA A0 ad σ t.heap) A0) args s 0 0 A0) (F0 m 37 ls []) := by
  obtain ⟨hx, hb, hml, hown, hts, hr, hlk⟩ := id hC
  intro n
  induction n with
  | zero =>
    intro H locs ls v8 v6 v5 v3 v1 v2 hv5 hR hS hl hf
    rw [fX5_riskOf_L37.eq_1] at hf
    cases hf
  | succ n ih =>
    intro H locs ls v8 v6 v5 v3 v1 v2 hv5 hR hS hl hf
    rw [fX5_riskOf_L37.eq_2] at hf
    refine lv_iload hx hb dX5_riskOf_37 (lv_at hl 0 rfl) ?_
    refine lv_iconst (v := 4) hx hb dX5_riskOf_39 (by decide) ?_
    refine lv_icmp_ge (tgt := 65) hx hb dX5_riskOf_40 (by decide) (fun c5 => ?_) (fun c5 => ?_)
    · have hf := if_of_pos hf c5
      refine lv_lload hx hb dX5_riskOf_65 (lv_at hl 1 rfl) ?_
      cases hf
      exact ret_l hC hR hS dX5_riskOf_67
    · have hf := if_of_neg hf c5
      refine lv_lload hx hb dX5_riskOf_43 (lv_at hl 1 rfl) ?_
      refine lv_lload_n hx hb dX5_riskOf_45 rfl (lv_at hl 3 rfl) ?_
      refine lv_lneg hx hb dX5_riskOf_46 ?_
      refine lv_aload hx hb dX5_riskOf_47 (lv_at hl 2 rfl) ?_
      refine lv_iload hx hb dX5_riskOf_49 (lv_at hl 0 rfl) ?_
      obtain ⟨g6, hf⟩ := gd_of hf
      refine va_iald hx hb hK.1 (WW_one hR (f := 8) (i := v5) hv5) 0 0 rfl rfl g6 dX5_riskOf_51 ?_
      refine lv_i2l hx hb dX5_riskOf_52 rfl ?_
      refine lv_lmul hx hb dX5_riskOf_53 ?_
      refine va_mmax_long hx hb (hml.trans hl.1.symm) hown (hts _ q_402) (hts _ q_403) (hts _ q_48) (hts _ q_404) (Nat.le_of_ble_eq_true rfl) (Nat.le_of_ble_eq_true rfl) (Nat.le_of_ble_eq_true rfl) (Nat.le_of_ble_eq_true rfl) dX5_riskOf_54 ?_
      refine lv_topl (fun x7 hx7 => ?_)
      have hf := kst_eq hx7 hf
      refine lv_lstore (lv' := [(6, .long x7), (8, .int v8), (5, .ref (ad 8 v5)), (3, .long v3), (0, .ref (ad 0 0)), (1, .int v1), (2, .int v2)]) hx hb dX5_riskOf_57 hl (by decide) rfl (fun ls hl => ?_)
      obtain ⟨x8, hx8⟩ : ∃ y : Int32, y = v8 + 1 := ⟨_, rfl⟩
      have hf := kst_eq hx8 hf
      refine lv_iinc (v := x8) (lv' := [(8, .int x8), (6, .long x7), (5, .ref (ad 8 v5)), (3, .long v3), (0, .ref (ad 0 0)), (1, .int v1), (2, .int v2)]) hx hb dX5_riskOf_59 hl (k := 1) rfl (by rw [hx8]; rfl) (by decide) rfl (fun ls hl => ?_)
      refine lv_goto (tgt := 37) hx hb dX5_riskOf_62 (by decide) ?_
      exact ih _ _ _ x8 x7 v5 v3 v1 v2 hv5 hR hS (lv_sub hl [0, 1, 2, 3, 4, 5, 6] rfl) hf
def fX5_riskOf (σ : St) (a1 : Int32) (a2 : Int32) : Option (Int64) := gd (vin a1 5) (gd (vin a2 3) (kst (Int32.toInt64 (gI σ 4 a1.toNatClampNeg a2.toNatClampNeg)) (fun x3 => kst ((-x3) * (Int32.toInt64 (gI σ 8 a2.toNatClampNeg (0 : Int32).toNatClampNeg))) (fun x4 => fX5_riskOf_L37 σ 1000 1 x4 a2.toNatClampNeg x3 a1 a2))))
set_option maxHeartbeats 4000000 in
set_option maxRecDepth 100000 in
theorem mX5_riskOf (l : Launch) (D : va_G) (dA : Nat → ClassId) (ad : Nat → Nat → Nat) (σ : St) (sz : Nat) (a1 : Int32) (a2 : Int32) (r : Int64) (hf : fX5_riskOf σ a1 a2 = some r) : Met l yX5_riskOf (WSy yX5_riskOf cX5_riskOf 9 (some .long)) ({ frames := 1, cells := 0, slots := 0, locals := 23 } : Room) (va_Pc [.ref (ad 0 0), .int a1, .int a2] (fun U => U.heap.size = sz ∧ HC D dA (fun _ => True) ad σ U.heap ∧ KS D dA U)) (va_Ql (fun (x : Int64) (_ : Unit) => x = r) (fun _ t => HC D dA (WA ad (cvC σ) sz) ad σ t.heap) (WA ad (cvC σ) sz)) 0 0 (WA ad (cvC σ) sz) := by
  refine met_of (by decide) (Nat.le_of_ble_eq_true rfl) ?_
  intro p e s m below meth c ls hC hB hl
  obtain ⟨rfl, hR, hK⟩ := hB
  have hA : ∀ q : Nat, s.heap.size ≤ q → WA ad (cvC σ) s.heap.size q := fun q h => Or.inr h
  have hR := WW_fit (B := WA ad (cvC σ) s.heap.size) hR (fun f i h => WA_in h)
  have hS : va_S (WA ad (cvC σ) s.heap.size) s.heap s.heap [] := va_S.rf
  generalize WA ad (cvC σ) s.heap.size = A0 at hA hR hS ⊢
  have hC : CTX p s m _ meth c cX5_riskOf 9 RX5 (some .long) := hC
  obtain ⟨hx, hb, hml, hown, hts, hr, hlk⟩ := id hC
  have hl : lv_has ls 9 [(0, .ref (ad 0 0)), (1, .int a1), (2, .int a2)] := hl
  unfold fX5_riskOf at hf
  refine lv_aload_n hx hb dX5_riskOf_0 rfl (lv_at hl 0 rfl) ?_
  refine va_get (D := D) (ci := 6) (C := RX5) (T := TX5) (N := 8) hx hb hts iuX5 hown hK.1 (WW_one hR (f := 0) (i := 0) rfl) 0 rfl rfl 0 (by decide) (hts _ q_164) (fun _ h9 => h9) rfl dX5_riskOf_1 ?_
  refine lv_iload_n hx hb dX5_riskOf_4 rfl (lv_at hl 1 rfl) ?_
  obtain ⟨g1, hf⟩ := gd_of hf
  refine va_aldq (C := RX0) hx hb hK.1 (WW_one hR (f := 1) (i := 0) rfl) 0 3 rfl rfl g1 dX5_riskOf_5 ?_
  refine va_getN (D := D) (ci := 1) (C := RX0) (T := TX0) (N := 8) hx hb hts iuX0 hown hK.1 (WW_one hR (f := 2) (i := a1.toNatClampNeg) (vin_lt g1)) 0 rfl rfl 6 (by decide) (nw_f hK.2 q_111) (fun _ h9 => h9) rfl dX5_riskOf_6 ?_
  refine lv_iload_n hx hb dX5_riskOf_9 rfl (lv_at hl 2 rfl) ?_
  obtain ⟨g2, hf⟩ := gd_of hf
  refine va_iald hx hb hK.1 (WW_one hR (f := 4) (i := a1.toNatClampNeg) (vin_lt g1)) 0 0 rfl rfl g2 dX5_riskOf_10 ?_
  refine lv_i2l hx hb dX5_riskOf_11 rfl ?_
  refine lv_topl (fun x3 hx3 => ?_)
  have hf := kst_eq hx3 hf
  refine lv_lstore_n (lv' := [(3, .long x3), (0, .ref (ad 0 0)), (1, .int a1), (2, .int a2)]) hx hb dX5_riskOf_12 rfl hl (by decide) rfl (fun ls hl => ?_)
  refine lv_aload_n hx hb dX5_riskOf_13 rfl (lv_at hl 1 rfl) ?_
  refine va_get (D := D) (ci := 6) (C := RX5) (T := TX5) (N := 8) hx hb hts iuX5 hown hK.1 (WW_one hR (f := 0) (i := 0) rfl) 0 rfl rfl 1 (by decide) (hts _ q_165) (fun _ h9 => h9) rfl dX5_riskOf_14 ?_
  refine lv_iload_n hx hb dX5_riskOf_17 rfl (lv_at hl 3 rfl) ?_
  refine va_aldq (C := RX3) hx hb hK.1 (WW_one hR (f := 6) (i := 0) rfl) 0 4 rfl rfl g2 dX5_riskOf_18 ?_
  refine va_getN (D := D) (ci := 4) (C := RX3) (T := TX3) (N := 3) hx hb hts iuX3 hown hK.1 (WW_one hR (f := 7) (i := a2.toNatClampNeg) (vin_lt g2)) 0 rfl rfl 2 (by decide) (nw_f hK.2 q_142) (fun _ h9 => h9) rfl dX5_riskOf_19 ?_
  refine lv_astore (lv' := [(5, .ref (ad 8 a2.toNatClampNeg)), (3, .long x3), (0, .ref (ad 0 0)), (1, .int a1), (2, .int a2)]) hx hb dX5_riskOf_22 hl (by decide) rfl (fun ls hl => ?_)
  refine lv_lload_n hx hb dX5_riskOf_24 rfl (lv_at hl 1 rfl) ?_
  refine lv_lneg hx hb dX5_riskOf_25 ?_
  refine lv_aload hx hb dX5_riskOf_26 (lv_at hl 0 rfl) ?_
  refine lv_iconst (v := 0) hx hb dX5_riskOf_28 (by decide) ?_
  refine va_iald hx hb hK.1 (WW_one hR (f := 8) (i := a2.toNatClampNeg) (vin_lt g2)) 0 0 rfl rfl (by decide : vin 0 4) dX5_riskOf_29 ?_
  refine lv_i2l hx hb dX5_riskOf_30 rfl ?_
  refine lv_lmul hx hb dX5_riskOf_31 ?_
  refine lv_topl (fun x4 hx4 => ?_)
  have hf := kst_eq hx4 hf
  refine lv_lstore (lv' := [(6, .long x4), (5, .ref (ad 8 a2.toNatClampNeg)), (3, .long x3), (0, .ref (ad 0 0)), (1, .int a1), (2, .int a2)]) hx hb dX5_riskOf_32 hl (by decide) rfl (fun ls hl => ?_)
  refine lv_iconst (v := 1) hx hb dX5_riskOf_34 (by decide) ?_
  refine lv_istore (lv' := [(8, .int 1), (6, .long x4), (5, .ref (ad 8 a2.toNatClampNeg)), (3, .long x3), (0, .ref (ad 0 0)), (1, .int a1), (2, .int a2)]) hx hb dX5_riskOf_35 hl (by decide) rfl (fun ls hl => ?_)
  exact wX5_riskOf_L37 hC hK hA 1000 _ _ _ 1 x4 a2.toNatClampNeg x3 a1 a2 (vin_lt g2) hR hS (lv_sub hl [0, 1, 2, 3, 4, 5, 6] rfl) hf
def fX5_goesAhead (σ : St) (a1 : Int32) (a2 : Int32) (a3 : Int32) : Option (Int32) := bd (fX5_riskOf σ a1 a2) (fun q1 => bd (fX5_riskOf σ a1 a3) (fun q2 => if q2 < q1 then some (1) else if ¬ q1 = q2 then some (0) else if a3 ≤ a2 then some (0) else some (1)))
set_option maxHeartbeats 4000000 in
set_option maxRecDepth 100000 in
theorem mX5_goesAhead (l : Launch) (D : va_G) (dA : Nat → ClassId) (ad : Nat → Nat → Nat) (σ : St) (sz : Nat) (a1 : Int32) (a2 : Int32) (a3 : Int32) (r : Int32) (hf : fX5_goesAhead σ a1 a2 a3 = some r) : Met l yX5_goesAhead (WSy yX5_goesAhead cX5_goesAhead 8 (some .boolean)) ({ frames := 2, cells := 0, slots := 0, locals := 51 } : Room) (va_Pc [.ref (ad 0 0), .int a1, .int a2, .int a3] (fun U => U.heap.size = sz ∧ HC D dA (fun _ => True) ad σ U.heap ∧ KS D dA U)) (va_Qi (fun (x : Int32) (_ : Unit) => x = r) (fun _ t => HC D dA (WA ad (cvC σ) sz) ad σ t.heap) (WA ad (cvC σ) sz)) 0 0 (WA ad (cvC σ) sz) := by
  refine met_of (by decide) (Nat.le_of_ble_eq_true rfl) ?_
  intro p e s m below meth c ls hC hB hl
  obtain ⟨rfl, hR, hK⟩ := hB
  have hA : ∀ q : Nat, s.heap.size ≤ q → WA ad (cvC σ) s.heap.size q := fun q h => Or.inr h
  have hR := WW_fit (B := WA ad (cvC σ) s.heap.size) hR (fun f i h => WA_in h)
  have hS : va_S (WA ad (cvC σ) s.heap.size) s.heap s.heap [] := va_S.rf
  generalize WA ad (cvC σ) s.heap.size = A0 at hA hR hS ⊢
  have hC : CTX p s m _ meth c cX5_goesAhead 8 RX5 (some .boolean) := hC
  obtain ⟨hx, hb, hml, hown, hts, hr, hlk⟩ := id hC
  have hl : lv_has ls 8 [(0, .ref (ad 0 0)), (1, .int a1), (2, .int a2), (3, .int a3)] := hl
  unfold fX5_goesAhead at hf
  refine lv_aload_n hx hb dX5_goesAhead_0 rfl (lv_at hl 0 rfl) ?_
  refine lv_iload_n hx hb dX5_goesAhead_1 rfl (lv_at hl 1 rfl) ?_
  refine lv_iload_n hx hb dX5_goesAhead_2 rfl (lv_at hl 2 rfl) ?_
  obtain ⟨q1, hcq1, hf⟩ := bd_of hf
  refine kc_l (va_runV (As := [.int a1, .int a2]) (rest := []) ⟨hx, hb, hml, hown, hts⟩ (mX5_riskOf l D dA ad σ _ a1 a2 q1 hcq1) (cwV 2 hts gX5_291 rfl rfl rfl (by decide +kernel) ⟨Nat.le_of_ble_eq_true rfl, Nat.le_of_ble_eq_true rfl⟩) (preV_of hR hK (f := 0) (i := 0) rfl rfl rfl _) rfl rfl hl.1 rfl (lv_room (Nat.le_of_ble_eq_true rfl)) dX5_goesAhead_3 ⟨Nat.zero_le _, Nat.zero_le _⟩) hA hR hS (fun H locs hR hS => ?_)
  refine lv_lstore (lv' := [(4, .long q1), (0, .ref (ad 0 0)), (1, .int a1), (2, .int a2), (3, .int a3)]) hx hb dX5_goesAhead_6 hl (by decide) rfl (fun ls hl => ?_)
  refine lv_aload_n hx hb dX5_goesAhead_8 rfl (lv_at hl 1 rfl) ?_
  refine lv_iload_n hx hb dX5_goesAhead_9 rfl (lv_at hl 2 rfl) ?_
  refine lv_iload_n hx hb dX5_goesAhead_10 rfl (lv_at hl 4 rfl) ?_
  obtain ⟨q2, hcq2, hf⟩ := bd_of hf
  refine kc_l (va_runV (As := [.int a1, .int a3]) (rest := []) ⟨hx, hb, hml, hown, hts⟩ (mX5_riskOf l D dA ad σ _ a1 a3 q2 hcq2) (cwV 2 hts gX5_291 rfl rfl rfl (by decide +kernel) ⟨Nat.le_of_ble_eq_true rfl, Nat.le_of_ble_eq_true rfl⟩) (preV_of hR hK (f := 0) (i := 0) rfl rfl rfl _) rfl rfl hl.1 rfl (lv_room (Nat.le_of_ble_eq_true rfl)) dX5_goesAhead_11 ⟨Nat.zero_le _, Nat.zero_le _⟩) hA hR hS (fun H locs hR hS => ?_)
  refine lv_lstore (lv' := [(6, .long q2), (4, .long q1), (0, .ref (ad 0 0)), (1, .int a1), (2, .int a2), (3, .int a3)]) hx hb dX5_goesAhead_14 hl (by decide) rfl (fun ls hl => ?_)
  refine lv_lload hx hb dX5_goesAhead_16 (lv_at hl 1 rfl) ?_
  refine lv_lload hx hb dX5_goesAhead_18 (lv_at hl 0 rfl) ?_
  refine W.lcmp hx hb dX5_goesAhead_20 ?_
  refine lv_if_gt (tgt := 37) hx hb dX5_goesAhead_21 (by decide) (fun c30 => ?_) (fun c30 => ?_)
  · have c3 : q2 < q1 := (lg_cmp_gt _ _).mp c30
    have hf := if_of_pos hf c3
    refine lv_iconst (v := 1) hx hb dX5_goesAhead_37 (by decide) ?_
    refine lv_goto (tgt := 42) hx hb dX5_goesAhead_38 (by decide) ?_
    cases hf
    exact ret_z hC hR hS (by decide) dX5_goesAhead_42
  · have c3 : ¬ (q2 < q1) := fun q => c30 ((lg_cmp_gt _ _).mpr q)
    have hf := if_of_neg hf c3
    refine lv_lload hx hb dX5_goesAhead_24 (lv_at hl 1 rfl) ?_
    refine lv_lload hx hb dX5_goesAhead_26 (lv_at hl 0 rfl) ?_
    refine W.lcmp hx hb dX5_goesAhead_28 ?_
    refine lv_if_ne (tgt := 41) hx hb dX5_goesAhead_29 (by decide) (fun c40 => ?_) (fun c40 => ?_)
    · have c4 : ¬ q1 = q2 := fun q => c40 ((lg_cmp_eq _ _).mpr q)
      have hf := if_of_pos hf c4
      refine lv_iconst (v := 0) hx hb dX5_goesAhead_41 (by decide) ?_
      cases hf
      exact ret_z hC hR hS (by decide) dX5_goesAhead_42
    · have c4 : ¬ ¬ q1 = q2 := fun q => q ((lg_cmp_eq _ _).mp c40)
      have hf := if_of_neg hf c4
      refine lv_iload_n hx hb dX5_goesAhead_32 rfl (lv_at hl 4 rfl) ?_
      refine lv_iload_n hx hb dX5_goesAhead_33 rfl (lv_at hl 5 rfl) ?_
      refine lv_icmp_ge (tgt := 41) hx hb dX5_goesAhead_34 (by decide) (fun c5 => ?_) (fun c5 => ?_)
      · have hf := if_of_pos hf c5
        refine lv_iconst (v := 0) hx hb dX5_goesAhead_41 (by decide) ?_
        cases hf
        exact ret_z hC hR hS (by decide) dX5_goesAhead_42
      · have hf := if_of_neg hf c5
        refine lv_iconst (v := 1) hx hb dX5_goesAhead_37 (by decide) ?_
        refine lv_goto (tgt := 42) hx hb dX5_goesAhead_38 (by decide) ?_
        cases hf
        exact ret_z hC hR hS (by decide) dX5_goesAhead_42
def fX5_sellCollateral_L18 : Nat → St → Int32 → Nat → Int32 → Option (St)
  | 0, _, _, _, _ => none
  | n + 1, σ, v3, v2, v1 => if 2 ≤ v3 then some (σ) else gd (vin v3 2) (kst (v3 + 1) (fun x6 => fX5_sellCollateral_L18 n (pI σ 3 v2 v3.toNatClampNeg 0) x6 v2 v1))
set_option maxHeartbeats 4000000 in
set_option maxRecDepth 100000 in
theorem wX5_sellCollateral_L18 {p : Program} {l : Launch} {e : Env} {s : State} {m : MethodId} {args : Array Value} {below : List Frame} {meth : Method} {c : Code} {D : va_G} {dA : Nat → ClassId} {A0 : Nat → Prop} {ad : Nat → Nat → Nat} {σ' : St}  (hC : CTX p s m args meth c cX5_sellCollateral 4 RX5 none) (hK : KS D dA s) (hA : ∀ q, s.heap.size ≤ q → A0 q) : ∀ (n : Nat) (H : Heap) (locs : List Loc) (ls : Array Slot) (σ : St) (v3 : Int32) (v2 : Nat) (v1 : Int32) (hv2 : cvC σ 2 v2), HC D dA A0 ad σ H → va_S A0 s.heap H locs → lv_has ls 4 [(3, .int v3), (2, .ref (ad 2 v2)), (0, .ref (ad 0 0)), (1, .int v1)] → fX5_sellCollateral_L18 n σ v3 v2 v1 = some σ' → W p l e ({ frames := 2, cells := 0, slots := 0, locals := 47 } : Room) s m args below meth c H locs 0 0 (MQ below (va_Qv (fun (_ : Unit) => True) (fun _ t => HC D dA A0 ad σ' t.heap) A0) args s 0 0 A0) (F0 m 18 ls []) := by
  obtain ⟨hx, hb, hml, hown, hts, hr, hlk⟩ := id hC
  intro n
  induction n with
  | zero =>
    intro H locs ls σ v3 v2 v1 hv2 hR hS hl hf
    rw [fX5_sellCollateral_L18.eq_1] at hf
    cases hf
  | succ n ih =>
    intro H locs ls σ v3 v2 v1 hv2 hR hS hl hf
    rw [fX5_sellCollateral_L18.eq_2] at hf
    refine lv_iload_n hx hb dX5_sellCollateral_18 rfl (lv_at hl 0 rfl) ?_
    refine lv_iconst (v := 2) hx hb dX5_sellCollateral_19 (by decide) ?_
    refine lv_icmp_ge (tgt := 36) hx hb dX5_sellCollateral_20 (by decide) (fun c4 => ?_) (fun c4 => ?_)
    · have hf := if_of_pos hf c4
      cases hf
      exact ret_v hC hR hS dX5_sellCollateral_36
    · have hf := if_of_neg hf c4
      refine lv_aload_n hx hb dX5_sellCollateral_23 rfl (lv_at hl 1 rfl) ?_
      refine va_getN (D := D) (ci := 1) (C := RX0) (T := TX0) (N := 8) hx hb hts iuX0 hown hK.1 (WW_one hR (f := 2) (i := v2) hv2) 0 rfl rfl 5 (by decide) (nw_f hK.2 q_109) (fun _ h9 => h9) rfl dX5_sellCollateral_24 ?_
      refine lv_iload_n hx hb dX5_sellCollateral_27 rfl (lv_at hl 0 rfl) ?_
      refine lv_iconst (v := 0) hx hb dX5_sellCollateral_28 (by decide) ?_
      obtain ⟨g5, hf⟩ := gd_of hf
      refine ww_iast hx hb hK.1 hR hS 0 (f := 3) (j := v2) hv2 rfl rfl g5 dX5_sellCollateral_29 (fun H locs hR hS => ?_)
      have hR := HC_row3 v2 (v3.toNatClampNeg) 0 hR
      obtain ⟨x6, hx6⟩ : ∃ y : Int32, y = v3 + 1 := ⟨_, rfl⟩
      have hf := kst_eq hx6 hf
      refine lv_iinc (v := x6) (lv' := [(3, .int x6), (2, .ref (ad 2 v2)), (0, .ref (ad 0 0)), (1, .int v1)]) hx hb dX5_sellCollateral_30 hl (k := 0) rfl (by rw [hx6]; rfl) (by decide) rfl (fun ls hl => ?_)
      refine lv_goto (tgt := 18) hx hb dX5_sellCollateral_33 (by decide) ?_
      exact ih _ _ _ (pI σ 3 v2 v3.toNatClampNeg 0) x6 v2 v1 hv2 hR hS (lv_sub hl [0, 1, 2, 3] rfl) hf
def fX5_sellCollateral (σ : St) (a1 : Int32) : Option (St) := gd (vin a1 5) (bd (fX5_collateralOf σ a1) (fun q2 => bd (fX5_receiveFromOutside σ a1.toNatClampNeg q2) (fun q3 => fX5_sellCollateral_L18 1000 q3 0 a1.toNatClampNeg a1)))
set_option maxHeartbeats 4000000 in
set_option maxRecDepth 100000 in
theorem mX5_sellCollateral (l : Launch) (D : va_G) (dA : Nat → ClassId) (ad : Nat → Nat → Nat) (σ : St) (sz : Nat) (a1 : Int32) (σ' : St) (hf : fX5_sellCollateral σ a1 = some σ') : Met l yX5_sellCollateral (WSy yX5_sellCollateral cX5_sellCollateral 4 none) ({ frames := 2, cells := 0, slots := 0, locals := 47 } : Room) (va_Pc [.ref (ad 0 0), .int a1] (fun U => U.heap.size = sz ∧ HC D dA (fun _ => True) ad σ U.heap ∧ KS D dA U)) (va_Qv (fun (_ : Unit) => True) (fun _ t => HC D dA (WA ad (cvC σ) sz) ad σ' t.heap) (WA ad (cvC σ) sz)) 0 0 (WA ad (cvC σ) sz) := by
  refine met_of (by decide) (Nat.le_of_ble_eq_true rfl) ?_
  intro p e s m below meth c ls hC hB hl
  obtain ⟨rfl, hR, hK⟩ := hB
  have hA : ∀ q : Nat, s.heap.size ≤ q → WA ad (cvC σ) s.heap.size q := fun q h => Or.inr h
  have hR := WW_fit (B := WA ad (cvC σ) s.heap.size) hR (fun f i h => WA_in h)
  have hS : va_S (WA ad (cvC σ) s.heap.size) s.heap s.heap [] := va_S.rf
  generalize WA ad (cvC σ) s.heap.size = A0 at hA hR hS ⊢
  have hC : CTX p s m _ meth c cX5_sellCollateral 4 RX5 none := hC
  obtain ⟨hx, hb, hml, hown, hts, hr, hlk⟩ := id hC
  have hl : lv_has ls 4 [(0, .ref (ad 0 0)), (1, .int a1)] := hl
  unfold fX5_sellCollateral at hf
  refine lv_aload_n hx hb dX5_sellCollateral_0 rfl (lv_at hl 0 rfl) ?_
  refine va_get (D := D) (ci := 6) (C := RX5) (T := TX5) (N := 8) hx hb hts iuX5 hown hK.1 (WW_one hR (f := 0) (i := 0) rfl) 0 rfl rfl 0 (by decide) (hts _ q_164) (fun _ h9 => h9) rfl dX5_sellCollateral_1 ?_
  refine lv_iload_n hx hb dX5_sellCollateral_4 rfl (lv_at hl 1 rfl) ?_
  obtain ⟨g1, hf⟩ := gd_of hf
  refine va_aldq (C := RX0) hx hb hK.1 (WW_one hR (f := 1) (i := 0) rfl) 0 3 rfl rfl g1 dX5_sellCollateral_5 ?_
  refine lv_astore_n (lv' := [(2, .ref (ad 2 a1.toNatClampNeg)), (0, .ref (ad 0 0)), (1, .int a1)]) hx hb dX5_sellCollateral_6 rfl hl (by decide) rfl (fun ls hl => ?_)
  refine lv_aload_n hx hb dX5_sellCollateral_7 rfl (lv_at hl 0 rfl) ?_
  refine lv_aload_n hx hb dX5_sellCollateral_8 rfl (lv_at hl 1 rfl) ?_
  refine lv_iload_n hx hb dX5_sellCollateral_9 rfl (lv_at hl 2 rfl) ?_
  obtain ⟨q2, hcq2, hf⟩ := bd_of hf
  refine kc_l (va_runV (As := [.int a1]) (rest := [.ref (ad 2 a1.toNatClampNeg)]) ⟨hx, hb, hml, hown, hts⟩ (mX5_collateralOf l D dA ad σ _ a1 q2 hcq2) (cwV 1 hts gX5_189 rfl rfl rfl (by decide +kernel) ⟨Nat.le_of_ble_eq_true rfl, Nat.le_of_ble_eq_true rfl⟩) (preV_of hR hK (f := 0) (i := 0) rfl rfl rfl _) rfl rfl hl.1 rfl (lv_room (Nat.le_of_ble_eq_true rfl)) dX5_sellCollateral_10 ⟨Nat.zero_le _, Nat.zero_le _⟩) hA hR hS (fun H locs hR hS => ?_)
  obtain ⟨q3, hcq3, hf⟩ := bd_of hf
  refine kc_v (va_runS (As := [.ref (ad 2 a1.toNatClampNeg), .long q2]) (rest := []) ⟨hx, hb, hml, hown, hts⟩ (mX5_receiveFromOutside l D dA ad σ _ a1.toNatClampNeg q2 q3 hcq3 (vin_lt g1)) (va_cwS 2 hts gX5_90 rfl rfl rfl (by decide +kernel) ⟨Nat.le_of_ble_eq_true rfl, Nat.le_of_ble_eq_true rfl⟩) (preS_of hR hK _) rfl rfl hl.1 rfl (lv_room (Nat.le_of_ble_eq_true rfl)) dX5_sellCollateral_13 ⟨Nat.zero_le _, Nat.zero_le _⟩) hA hR hS (fun H locs hR hS => ?_)
  refine lv_iconst (v := 0) hx hb dX5_sellCollateral_16 (by decide) ?_
  refine lv_istore_n (lv' := [(3, .int 0), (2, .ref (ad 2 a1.toNatClampNeg)), (0, .ref (ad 0 0)), (1, .int a1)]) hx hb dX5_sellCollateral_17 rfl hl (by decide) rfl (fun ls hl => ?_)
  exact wX5_sellCollateral_L18 hC hK hA 1000 _ _ _ q3 0 a1.toNatClampNeg a1 (vin_lt g1) hR hS (lv_sub hl [0, 1, 2, 3] rfl) hf
