def fX5_restOf_L6 (σ : St) : Nat → Int32 → Int64 → Int32 → Int32 → Int32 → Option (Int64)
  | 0, _, _, _, _, _ => none
  | n + 1, v6, v4, v1, v2, v3 => if (nI (gN σ 0)) ≤ v6 then some (v4) else gd (vin v6 (gN σ 0)) (gd (lok0 σ) (if ¬ (gI σ 31 v6.toNatClampNeg 0) = v1 then kst (v6 + 1) (fun x5 => fX5_restOf_L6 σ n x5 v4 v1 v2 v3) else if ¬ (gI σ 32 v6.toNatClampNeg 0) = v2 then kst (v6 + 1) (fun x7 => fX5_restOf_L6 σ n x7 v4 v1 v2 v3) else if ¬ (gI σ 33 v6.toNatClampNeg 0) = v3 then kst (v6 + 1) (fun x9 => fX5_restOf_L6 σ n x9 v4 v1 v2 v3) else kst (v4 + (Int32.toInt64 (gI σ 35 v6.toNatClampNeg 0))) (fun x10 => kst (v6 + 1) (fun x11 => fX5_restOf_L6 σ n x11 x10 v1 v2 v3))))
set_option maxHeartbeats 4000000 in
set_option maxRecDepth 100000 in
theorem wX5_restOf_L6 {p : Program} {l : Launch} {e : Env} {s : State} {m : MethodId} {args : Array Value} {below : List Frame} {meth : Method} {c : Code} {D : va_G} {dA : Nat → ClassId} {A0 : Nat → Prop} {ad : Nat → Nat → Nat} {r : Int64} {σ : St} (hC : CTX p s m args meth c cX5_restOf 8 RX5 (some .long)) (hK : KS D dA s) (hA : ∀ q, s.heap.size ≤ q → A0 q) : ∀ (n : Nat) (H : Heap) (locs : List Loc) (ls : Array Slot) (v6 : Int32) (v4 : Int64) (v1 : Int32) (v2 : Int32) (v3 : Int32), HC D dA A0 ad σ H → va_S A0 s.heap H locs → lv_has ls 8 [(6, .int v6), (4, .long v4), (0, .ref (ad 0 0)), (1, .int v1), (2, .int v2), (3, .int v3)] → fX5_restOf_L6 σ n v6 v4 v1 v2 v3 = some r → W p l e ({ frames := 3, cells := 0, slots := 0, locals := 64 } : Room) s m args below meth c H locs 0 0 (MQ below (va_Ql (fun (x : Int64) (_ : Unit) => x = r) (fun _ t => HC D dA A0 ad σ t.heap) A0) args s 0 0 A0) (F0 m 6 ls []) := by
  obtain ⟨hx, hb, hml, hown, hts, hr, hlk⟩ := id hC
  intro n
  induction n with
  | zero =>
    intro H locs ls v6 v4 v1 v2 v3 hR hS hl hf
    rw [fX5_restOf_L6.eq_1] at hf
    cases hf
  | succ n ih =>
    intro H locs ls v6 v4 v1 v2 v3 hR hS hl hf
    rw [fX5_restOf_L6.eq_2] at hf
    refine lv_iload hx hb dX5_restOf_6 (lv_at hl 0 rfl) ?_
    refine lv_aload_n hx hb dX5_restOf_8 rfl (lv_at hl 2 rfl) ?_
    refine va_get (D := D) (ci := 6) (C := RX5) (T := TX5) (N := 8) hx hb hts iuX5 hown hK.1 (WW_one hR (f := 0) (i := 0) rfl) 0 rfl rfl 3 (by decide) (hts _ q_167) (fun _ h9 => h9) rfl dX5_restOf_9 ?_
    refine ls_size12 (rest := [.int v6]) hC hK hA hR hS hl q_197 ⟨Nat.le_of_ble_eq_true rfl, Nat.le_of_ble_eq_true rfl⟩ (lv_room (Nat.le_of_ble_eq_true rfl)) ⟨Nat.zero_le _, Nat.zero_le _⟩ dX5_restOf_12 (fun H locs hR hS => ?_)
    refine lv_icmp_ge (tgt := 76) hx hb dX5_restOf_15 (by decide) (fun c1 => ?_) (fun c1 => ?_)
    · have hf := if_of_pos hf c1
      refine lv_lload hx hb dX5_restOf_76 (lv_at hl 1 rfl) ?_
      cases hf
      exact ret_l hC hR hS dX5_restOf_78
    · have hf := if_of_neg hf c1
      refine lv_aload_n hx hb dX5_restOf_18 rfl (lv_at hl 2 rfl) ?_
      refine va_get (D := D) (ci := 6) (C := RX5) (T := TX5) (N := 8) hx hb hts iuX5 hown hK.1 (WW_one hR (f := 0) (i := 0) rfl) 0 rfl rfl 3 (by decide) (hts _ q_167) (fun _ h9 => h9) rfl dX5_restOf_19 ?_
      refine lv_iload hx hb dX5_restOf_22 (lv_at hl 0 rfl) ?_
      obtain ⟨g2, hf⟩ := gd_of hf
      obtain ⟨g3, hf⟩ := gd_of hf
      refine ls_get12 (rest := []) hC hK hA hR hS hl g2 (vin_mono g2 g3.1) (Nat.lt_of_le_of_lt g3.1 g3.2.2) q_265 ⟨Nat.le_of_ble_eq_true rfl, Nat.le_of_ble_eq_true rfl⟩ (lv_room (Nat.le_of_ble_eq_true rfl)) ⟨Nat.zero_le _, Nat.zero_le _⟩ dX5_restOf_24 (fun H locs hR hS => ?_)
      refine cast_of hx hb hown (hts _ q_279) hK (WW_at hR (f := 17) (i := v6.toNatClampNeg) (Nat.lt_of_lt_of_le (vin_lt g2) g3.2.1)) (ci := 3) rfl rfl dX5_restOf_27 ?_
      refine lv_astore (lv' := [(7, .ref (ad 17 v6.toNatClampNeg)), (6, .int v6), (4, .long v4), (0, .ref (ad 0 0)), (1, .int v1), (2, .int v2), (3, .int v3)]) hx hb dX5_restOf_30 hl (by decide) rfl (fun ls hl => ?_)
      refine lv_aload hx hb dX5_restOf_32 (lv_at hl 0 rfl) ?_
      refine va_getN (D := D) (ci := 3) (C := RX2) (T := TX2) (N := 6) hx hb hts iuX2 hown hK.1 (WW_one hR (f := 17) (i := v6.toNatClampNeg) (Nat.lt_of_lt_of_le (vin_lt g2) g3.2.1)) 0 rfl rfl 1 (by decide) (nw_f hK.2 q_428) (fun _ h9 => h9) rfl dX5_restOf_34 ?_
      refine lv_iload_n hx hb dX5_restOf_37 rfl (lv_at hl 4 rfl) ?_
      refine lv_icmp_ne (tgt := 70) hx hb dX5_restOf_38 (by decide) (fun c4 => ?_) (fun c4 => ?_)
      · have hf := if_of_pos hf c4
        obtain ⟨x5, hx5⟩ : ∃ y : Int32, y = v6 + 1 := ⟨_, rfl⟩
        have hf := kst_eq hx5 hf
        refine lv_iinc (v := x5) (lv' := [(6, .int x5), (7, .ref (ad 17 v6.toNatClampNeg)), (4, .long v4), (0, .ref (ad 0 0)), (1, .int v1), (2, .int v2), (3, .int v3)]) hx hb dX5_restOf_70 hl (k := 1) rfl (by rw [hx5]; rfl) (by decide) rfl (fun ls hl => ?_)
        refine lv_goto (tgt := 6) hx hb dX5_restOf_73 (by decide) ?_
        exact ih _ _ _ x5 v4 v1 v2 v3 hR hS (lv_sub hl [0, 2, 3, 4, 5, 6] rfl) hf
      · have hf := if_of_neg hf (fun q => q c4)
        refine lv_aload hx hb dX5_restOf_41 (lv_at hl 0 rfl) ?_
        refine va_getN (D := D) (ci := 3) (C := RX2) (T := TX2) (N := 6) hx hb hts iuX2 hown hK.1 (WW_one hR (f := 17) (i := v6.toNatClampNeg) (Nat.lt_of_lt_of_le (vin_lt g2) g3.2.1)) 0 rfl rfl 2 (by decide) (nw_f hK.2 q_430) (fun _ h9 => h9) rfl dX5_restOf_43 ?_
        refine lv_iload_n hx hb dX5_restOf_46 rfl (lv_at hl 5 rfl) ?_
        refine lv_icmp_ne (tgt := 70) hx hb dX5_restOf_47 (by decide) (fun c6 => ?_) (fun c6 => ?_)
        · have hf := if_of_pos hf c6
          obtain ⟨x7, hx7⟩ : ∃ y : Int32, y = v6 + 1 := ⟨_, rfl⟩
          have hf := kst_eq hx7 hf
          refine lv_iinc (v := x7) (lv' := [(6, .int x7), (7, .ref (ad 17 v6.toNatClampNeg)), (4, .long v4), (0, .ref (ad 0 0)), (1, .int v1), (2, .int v2), (3, .int v3)]) hx hb dX5_restOf_70 hl (k := 1) rfl (by rw [hx7]; rfl) (by decide) rfl (fun ls hl => ?_)
          refine lv_goto (tgt := 6) hx hb dX5_restOf_73 (by decide) ?_
          exact ih _ _ _ x7 v4 v1 v2 v3 hR hS (lv_sub hl [0, 2, 3, 4, 5, 6] rfl) hf
        · have hf := if_of_neg hf (fun q => q c6)
          refine lv_aload hx hb dX5_restOf_50 (lv_at hl 0 rfl) ?_
          refine va_getN (D := D) (ci := 3) (C := RX2) (T := TX2) (N := 6) hx hb hts iuX2 hown hK.1 (WW_one hR (f := 17) (i := v6.toNatClampNeg) (Nat.lt_of_lt_of_le (vin_lt g2) g3.2.1)) 0 rfl rfl 3 (by decide) (nw_f hK.2 q_432) (fun _ h9 => h9) rfl dX5_restOf_52 ?_
          refine lv_iload_n hx hb dX5_restOf_55 rfl (lv_at hl 6 rfl) ?_
          refine lv_icmp_ne (tgt := 70) hx hb dX5_restOf_56 (by decide) (fun c8 => ?_) (fun c8 => ?_)
          · have hf := if_of_pos hf c8
            obtain ⟨x9, hx9⟩ : ∃ y : Int32, y = v6 + 1 := ⟨_, rfl⟩
            have hf := kst_eq hx9 hf
            refine lv_iinc (v := x9) (lv' := [(6, .int x9), (7, .ref (ad 17 v6.toNatClampNeg)), (4, .long v4), (0, .ref (ad 0 0)), (1, .int v1), (2, .int v2), (3, .int v3)]) hx hb dX5_restOf_70 hl (k := 1) rfl (by rw [hx9]; rfl) (by decide) rfl (fun ls hl => ?_)
            refine lv_goto (tgt := 6) hx hb dX5_restOf_73 (by decide) ?_
            exact ih _ _ _ x9 v4 v1 v2 v3 hR hS (lv_sub hl [0, 2, 3, 4, 5, 6] rfl) hf
          · have hf := if_of_neg hf (fun q => q c8)
            refine lv_lload hx hb dX5_restOf_59 (lv_at hl 2 rfl) ?_
            refine lv_aload hx hb dX5_restOf_61 (lv_at hl 0 rfl) ?_
            refine va_getN (D := D) (ci := 3) (C := RX2) (T := TX2) (N := 6) hx hb hts iuX2 hown hK.1 (WW_one hR (f := 17) (i := v6.toNatClampNeg) (Nat.lt_of_lt_of_le (vin_lt g2) g3.2.1)) 0 rfl rfl 5 (by decide) (nw_f hK.2 q_436) (fun _ h9 => h9) rfl dX5_restOf_63 ?_
            refine lv_i2l hx hb dX5_restOf_66 rfl ?_
            refine lv_ladd hx hb dX5_restOf_67 ?_
            refine lv_topl (fun x10 hx10 => ?_)
            have hf := kst_eq hx10 hf
            refine lv_lstore (lv' := [(4, .long x10), (7, .ref (ad 17 v6.toNatClampNeg)), (6, .int v6), (0, .ref (ad 0 0)), (1, .int v1), (2, .int v2), (3, .int v3)]) hx hb dX5_restOf_68 hl (by decide) rfl (fun ls hl => ?_)
            obtain ⟨x11, hx11⟩ : ∃ y : Int32, y = v6 + 1 := ⟨_, rfl⟩
            have hf := kst_eq hx11 hf
            refine lv_iinc (v := x11) (lv' := [(6, .int x11), (4, .long x10), (7, .ref (ad 17 v6.toNatClampNeg)), (0, .ref (ad 0 0)), (1, .int v1), (2, .int v2), (3, .int v3)]) hx hb dX5_restOf_70 hl (k := 2) rfl (by rw [hx11]; rfl) (by decide) rfl (fun ls hl => ?_)
            refine lv_goto (tgt := 6) hx hb dX5_restOf_73 (by decide) ?_
            exact ih _ _ _ x11 x10 v1 v2 v3 hR hS (lv_sub hl [0, 1, 3, 4, 5, 6] rfl) hf
def fX5_restOf (σ : St) (a1 : Int32) (a2 : Int32) (a3 : Int32) : Option (Int64) := fX5_restOf_L6 σ 1000 0 0 a1 a2 a3
set_option maxHeartbeats 4000000 in
set_option maxRecDepth 100000 in
theorem mX5_restOf (l : Launch) (D : va_G) (dA : Nat → ClassId) (ad : Nat → Nat → Nat) (σ : St) (sz : Nat) (a1 : Int32) (a2 : Int32) (a3 : Int32) (r : Int64) (hf : fX5_restOf σ a1 a2 a3 = some r) : Met l yX5_restOf (WSy yX5_restOf cX5_restOf 8 (some .long)) ({ frames := 3, cells := 0, slots := 0, locals := 64 } : Room) (va_Pc [.ref (ad 0 0), .int a1, .int a2, .int a3] (fun U => U.heap.size = sz ∧ HC D dA (fun _ => True) ad σ U.heap ∧ KS D dA U)) (va_Ql (fun (x : Int64) (_ : Unit) => x = r) (fun _ t => HC D dA (WA ad (cvC σ) sz) ad σ t.heap) (WA ad (cvC σ) sz)) 0 0 (WA ad (cvC σ) sz) := by
  refine met_of (by decide) (Nat.le_of_ble_eq_true rfl) ?_
  intro p e s m below meth c ls hC hB hl
  obtain ⟨rfl, hR, hK⟩ := hB
  have hA : ∀ q : Nat, s.heap.size ≤ q → WA ad (cvC σ) s.heap.size q := fun q h => Or.inr h
  have hR := WW_fit (B := WA ad (cvC σ) s.heap.size) hR (fun f i h => WA_in h)
  have hS : va_S (WA ad (cvC σ) s.heap.size) s.heap s.heap [] := va_S.rf
  generalize WA ad (cvC σ) s.heap.size = A0 at hA hR hS ⊢
  have hC : CTX p s m _ meth c cX5_restOf 8 RX5 (some .long) := hC
  obtain ⟨hx, hb, hml, hown, hts, hr, hlk⟩ := id hC
  have hl : lv_has ls 8 [(0, .ref (ad 0 0)), (1, .int a1), (2, .int a2), (3, .int a3)] := hl
  unfold fX5_restOf at hf
  refine lv_lconst (v := 0) hx hb dX5_restOf_0 (by decide) ?_
  refine lv_lstore (lv' := [(4, .long 0), (0, .ref (ad 0 0)), (1, .int a1), (2, .int a2), (3, .int a3)]) hx hb dX5_restOf_1 hl (by decide) rfl (fun ls hl => ?_)
  refine lv_iconst (v := 0) hx hb dX5_restOf_3 (by decide) ?_
  refine lv_istore (lv' := [(6, .int 0), (4, .long 0), (0, .ref (ad 0 0)), (1, .int a1), (2, .int a2), (3, .int a3)]) hx hb dX5_restOf_4 hl (by decide) rfl (fun ls hl => ?_)
  exact wX5_restOf_L6 hC hK hA 1000 _ _ _ 0 0 a1 a2 a3 hR hS (lv_sub hl [0, 1, 2, 3, 4, 5] rfl) hf
def fX5_marginOf_L65 {β : Type} (k : St → Int32 → Int64 → Int64 → Int64 → Int32 → Int32 → Option β) : Nat → St → Int32 → Int64 → Int64 → Int64 → Int32 → Int32 → Option (β)
  | 0, _, _, _, _, _, _, _ => none
  | n + 1, σ, v9, v7, v5, v3, v2, v1 => if 4 ≤ v9 then k σ v9 v7 v5 v3 v2 v1 else gd (vin v2 3) (gd (vin v9 4) (kst (Int32.toInt64 (gI σ 8 v2.toNatClampNeg v9.toNatClampNeg)) (fun x13 => kst (v9 + 1) (fun x14 => fX5_marginOf_L65 k n (pL σ 16 0 v9.toNatClampNeg ((gL σ 16 0 v9.toNatClampNeg) + (if ((-v7) * x13) < ((-v5) * x13) then ((-v5) * x13) else ((-v7) * x13)))) x14 v7 v5 v3 v2 v1))))
set_option maxHeartbeats 4000000 in
set_option maxRecDepth 100000 in
theorem wX5_marginOf_L65 {p : Program} {l : Launch} {e : Env} {s : State} {m : MethodId} {args : Array Value} {below : List Frame} {meth : Method} {c : Code} {D : va_G} {dA : Nat → ClassId} {A0 : Nat → Prop} {ad : Nat → Nat → Nat} {β : Type} {o : β} {Q : State → Prop} {k : St → Int32 → Int64 → Int64 → Int64 → Int32 → Int32 → Option β} (hC : CTX p s m args meth c cX5_marginOf 12 RX5 (some .long)) (hK : KS D dA s) (hA : ∀ q, s.heap.size ≤ q → A0 q) (hk : ∀ (H : Heap) (locs : List Loc) (ls : Array Slot) (σ : St) (v9 : Int32) (v7 : Int64) (v5 : Int64) (v3 : Int64) (v2 : Int32) (v1 : Int32), HC D dA A0 ad σ H → va_S A0 s.heap H locs → lv_has ls 12 [(9, .int v9), (7, .long v7), (5, .long v5), (3, .long v3), (2, .int v2), (0, .ref (ad 0 0)), (1, .int v1)] → k σ v9 v7 v5 v3 v2 v1 = some o → W p l e ({ frames := 4, cells := 0, slots := 0, locals := 91 } : Room) s m args below meth c H locs 0 0 Q (F0 m 117 ls [])) : ∀ (n : Nat) (H : Heap) (locs : List Loc) (ls : Array Slot) (σ : St) (v9 : Int32) (v7 : Int64) (v5 : Int64) (v3 : Int64) (v2 : Int32) (v1 : Int32), HC D dA A0 ad σ H → va_S A0 s.heap H locs → lv_has ls 12 [(9, .int v9), (7, .long v7), (5, .long v5), (3, .long v3), (2, .int v2), (0, .ref (ad 0 0)), (1, .int v1)] → fX5_marginOf_L65 k n σ v9 v7 v5 v3 v2 v1 = some o → W p l e ({ frames := 4, cells := 0, slots := 0, locals := 91 } : Room) s m args below meth c H locs 0 0 Q (F0 m 65 ls []) := by
  obtain ⟨hx, hb, hml, hown, hts, hr, hlk⟩ := id hC
  intro n
  induction n with
  | zero =>
    intro H locs ls σ v9 v7 v5 v3 v2 v1 hR hS hl hf
    rw [fX5_marginOf_L65.eq_1] at hf
    cases hf
  | succ n ih =>
    intro H locs ls σ v9 v7 v5 v3 v2 v1 hR hS hl hf
    rw [fX5_marginOf_L65.eq_2] at hf
    refine lv_iload hx hb dX5_marginOf_65 (lv_at hl 0 rfl) ?_
    refine lv_iconst (v := 4) hx hb dX5_marginOf_67 (by decide) ?_
    refine lv_icmp_ge (tgt := 117) hx hb dX5_marginOf_68 (by decide) (fun c10 => ?_) (fun c10 => ?_)
    · have hf := if_of_pos hf c10
      exact hk _ _ _ σ v9 v7 v5 v3 v2 v1 hR hS (lv_sub hl [0, 1, 2, 3, 4, 5, 6] rfl) hf
    · have hf := if_of_neg hf c10
      refine lv_aload_n hx hb dX5_marginOf_71 rfl (lv_at hl 5 rfl) ?_
      refine va_get (D := D) (ci := 6) (C := RX5) (T := TX5) (N := 8) hx hb hts iuX5 hown hK.1 (WW_one hR (f := 0) (i := 0) rfl) 0 rfl rfl 1 (by decide) (hts _ q_165) (fun _ h9 => h9) rfl dX5_marginOf_72 ?_
      refine lv_iload_n hx hb dX5_marginOf_75 rfl (lv_at hl 4 rfl) ?_
      obtain ⟨g11, hf⟩ := gd_of hf
      refine va_aldq (C := RX3) hx hb hK.1 (WW_one hR (f := 6) (i := 0) rfl) 0 4 rfl rfl g11 dX5_marginOf_76 ?_
      refine va_getN (D := D) (ci := 4) (C := RX3) (T := TX3) (N := 3) hx hb hts iuX3 hown hK.1 (WW_one hR (f := 7) (i := v2.toNatClampNeg) (vin_lt g11)) 0 rfl rfl 2 (by decide) (nw_f hK.2 q_142) (fun _ h9 => h9) rfl dX5_marginOf_77 ?_
      refine lv_iload hx hb dX5_marginOf_80 (lv_at hl 0 rfl) ?_
      obtain ⟨g12, hf⟩ := gd_of hf
      refine va_iald hx hb hK.1 (WW_one hR (f := 8) (i := v2.toNatClampNeg) (vin_lt g11)) 0 0 rfl rfl g12 dX5_marginOf_82 ?_
      refine lv_i2l hx hb dX5_marginOf_83 rfl ?_
      refine lv_topl (fun x13 hx13 => ?_)
      have hf := kst_eq hx13 hf
      refine lv_lstore (lv' := [(10, .long x13), (9, .int v9), (7, .long v7), (5, .long v5), (3, .long v3), (2, .int v2), (0, .ref (ad 0 0)), (1, .int v1)]) hx hb dX5_marginOf_84 hl (by decide) rfl (fun ls hl => ?_)
      refine lv_aload_n hx hb dX5_marginOf_86 rfl (lv_at hl 6 rfl) ?_
      refine va_get (D := D) (ci := 6) (C := RX5) (T := TX5) (N := 8) hx hb hts iuX5 hown hK.1 (WW_one hR (f := 0) (i := 0) rfl) 0 rfl rfl 5 (by decide) (hts _ q_169) (fun _ h9 => h9) rfl dX5_marginOf_87 ?_
      refine lv_iload hx hb dX5_marginOf_90 (lv_at hl 1 rfl) ?_
      refine lv_dup2_11 hx hb dX5_marginOf_92 rfl rfl ?_
      refine va_lald hx hb hK.1 (WW_one hR (f := 16) (i := 0) rfl) 0 1 rfl rfl g12 dX5_marginOf_93 ?_
      refine lv_lload hx hb dX5_marginOf_94 (lv_at hl 3 rfl) ?_
      refine lv_lneg hx hb dX5_marginOf_96 ?_
      refine lv_lload hx hb dX5_marginOf_97 (lv_at hl 0 rfl) ?_
      refine lv_lmul hx hb dX5_marginOf_99 ?_
      refine lv_lload hx hb dX5_marginOf_100 (lv_at hl 2 rfl) ?_
      refine lv_lneg hx hb dX5_marginOf_102 ?_
      refine lv_lload hx hb dX5_marginOf_103 (lv_at hl 0 rfl) ?_
      refine lv_lmul hx hb dX5_marginOf_105 ?_
      refine va_mmax_long hx hb (hml.trans hl.1.symm) hown (hts _ q_402) (hts _ q_403) (hts _ q_48) (hts _ q_404) (Nat.le_of_ble_eq_true rfl) (Nat.le_of_ble_eq_true rfl) (Nat.le_of_ble_eq_true rfl) (Nat.le_of_ble_eq_true rfl) dX5_marginOf_106 ?_
      refine lv_ladd hx hb dX5_marginOf_109 ?_
      refine ww_last hx hb hK.1 hR hS 1 (f := 16) (j := 0) rfl rfl rfl g12 dX5_marginOf_110 (fun H locs hR hS => ?_)
      have hR := HC_row16 0 (v9.toNatClampNeg) ((gL σ 16 0 v9.toNatClampNeg) + (if ((-v7) * x13) < ((-v5) * x13) then ((-v5) * x13) else ((-v7) * x13))) hR
      obtain ⟨x14, hx14⟩ : ∃ y : Int32, y = v9 + 1 := ⟨_, rfl⟩
      have hf := kst_eq hx14 hf
      refine lv_iinc (v := x14) (lv' := [(9, .int x14), (10, .long x13), (7, .long v7), (5, .long v5), (3, .long v3), (2, .int v2), (0, .ref (ad 0 0)), (1, .int v1)]) hx hb dX5_marginOf_111 hl (k := 1) rfl (by rw [hx14]; rfl) (by decide) rfl (fun ls hl => ?_)
      refine lv_goto (tgt := 65) hx hb dX5_marginOf_114 (by decide) ?_
      exact ih _ _ _ (pL σ 16 0 v9.toNatClampNeg ((gL σ 16 0 v9.toNatClampNeg) + (if ((-v7) * x13) < ((-v5) * x13) then ((-v5) * x13) else ((-v7) * x13)))) x14 v7 v5 v3 v2 v1 hR hS (lv_sub hl [0, 2, 3, 4, 5, 6, 7] rfl) hf
def fX5_marginOf_L22 {β : Type} (k : St → Int32 → Int32 → Option β) : Nat → St → Int32 → Int32 → Option (β)
  | 0, _, _, _ => none
  | n + 1, σ, v2, v1 => if 3 ≤ v2 then k σ v2 v1 else gd (vin v1 5) (gd (vin v2 3) (kst (Int32.toInt64 (gI σ 4 v1.toNatClampNeg v2.toNatClampNeg)) (fun x5 => bd (fX5_restOf σ v1 v2 1) (fun q6 => kst (x5 + q6) (fun x7 => bd (fX5_restOf σ v1 v2 0) (fun q8 => kst (x5 - q8) (fun x9 => fX5_marginOf_L65 (fun s15 y16 y17 y18 y19 y20 y21 => kst (y20 + 1) (fun x22 => fX5_marginOf_L22 k n s15 x22 y21)) 1000 σ 0 x9 x7 x5 v2 v1)))))))
set_option maxHeartbeats 4000000 in
set_option maxRecDepth 100000 in
theorem wX5_marginOf_L22 {p : Program} {l : Launch} {e : Env} {s : State} {m : MethodId} {args : Array Value} {below : List Frame} {meth : Method} {c : Code} {D : va_G} {dA : Nat → ClassId} {A0 : Nat → Prop} {ad : Nat → Nat → Nat} {β : Type} {o : β} {Q : State → Prop} {k : St → Int32 → Int32 → Option β} (hC : CTX p s m args meth c cX5_marginOf 12 RX5 (some .long)) (hK : KS D dA s) (hA : ∀ q, s.heap.size ≤ q → A0 q) (hk : ∀ (H : Heap) (locs : List Loc) (ls : Array Slot) (σ : St) (v2 : Int32) (v1 : Int32), HC D dA A0 ad σ H → va_S A0 s.heap H locs → lv_has ls 12 [(2, .int v2), (0, .ref (ad 0 0)), (1, .int v1)] → k σ v2 v1 = some o → W p l e ({ frames := 4, cells := 0, slots := 0, locals := 91 } : Room) s m args below meth c H locs 0 0 Q (F0 m 123 ls [])) : ∀ (n : Nat) (H : Heap) (locs : List Loc) (ls : Array Slot) (σ : St) (v2 : Int32) (v1 : Int32), HC D dA A0 ad σ H → va_S A0 s.heap H locs → lv_has ls 12 [(2, .int v2), (0, .ref (ad 0 0)), (1, .int v1)] → fX5_marginOf_L22 k n σ v2 v1 = some o → W p l e ({ frames := 4, cells := 0, slots := 0, locals := 91 } : Room) s m args below meth c H locs 0 0 Q (F0 m 22 ls []) := by
  obtain ⟨hx, hb, hml, hown, hts, hr, hlk⟩ := id hC
  intro n
  induction n with
  | zero =>
    intro H locs ls σ v2 v1 hR hS hl hf
    rw [fX5_marginOf_L22.eq_1] at hf
    cases hf
  | succ n ih =>
    intro H locs ls σ v2 v1 hR hS hl hf
    rw [fX5_marginOf_L22.eq_2] at hf
    refine lv_iload_n hx hb dX5_marginOf_22 rfl (lv_at hl 0 rfl) ?_
    refine lv_iconst (v := 3) hx hb dX5_marginOf_23 (by decide) ?_
    refine lv_icmp_ge (tgt := 123) hx hb dX5_marginOf_24 (by decide) (fun c2 => ?_) (fun c2 => ?_)
    · have hf := if_of_pos hf c2
      exact hk _ _ _ σ v2 v1 hR hS (lv_sub hl [0, 1, 2] rfl) hf
    · have hf := if_of_neg hf c2
      refine lv_aload_n hx hb dX5_marginOf_27 rfl (lv_at hl 1 rfl) ?_
      refine va_get (D := D) (ci := 6) (C := RX5) (T := TX5) (N := 8) hx hb hts iuX5 hown hK.1 (WW_one hR (f := 0) (i := 0) rfl) 0 rfl rfl 0 (by decide) (hts _ q_164) (fun _ h9 => h9) rfl dX5_marginOf_28 ?_
      refine lv_iload_n hx hb dX5_marginOf_31 rfl (lv_at hl 2 rfl) ?_
      obtain ⟨g3, hf⟩ := gd_of hf
      refine va_aldq (C := RX0) hx hb hK.1 (WW_one hR (f := 1) (i := 0) rfl) 0 3 rfl rfl g3 dX5_marginOf_32 ?_
      refine va_getN (D := D) (ci := 1) (C := RX0) (T := TX0) (N := 8) hx hb hts iuX0 hown hK.1 (WW_one hR (f := 2) (i := v1.toNatClampNeg) (vin_lt g3)) 0 rfl rfl 6 (by decide) (nw_f hK.2 q_111) (fun _ h9 => h9) rfl dX5_marginOf_33 ?_
      refine lv_iload_n hx hb dX5_marginOf_36 rfl (lv_at hl 0 rfl) ?_
      obtain ⟨g4, hf⟩ := gd_of hf
      refine va_iald hx hb hK.1 (WW_one hR (f := 4) (i := v1.toNatClampNeg) (vin_lt g3)) 0 0 rfl rfl g4 dX5_marginOf_37 ?_
      refine lv_i2l hx hb dX5_marginOf_38 rfl ?_
      refine lv_topl (fun x5 hx5 => ?_)
      have hf := kst_eq hx5 hf
      refine lv_lstore_n (lv' := [(3, .long x5), (2, .int v2), (0, .ref (ad 0 0)), (1, .int v1)]) hx hb dX5_marginOf_39 rfl hl (by decide) rfl (fun ls hl => ?_)
      refine lv_lload_n hx hb dX5_marginOf_40 rfl (lv_at hl 0 rfl) ?_
      refine lv_aload_n hx hb dX5_marginOf_41 rfl (lv_at hl 2 rfl) ?_
      refine lv_iload_n hx hb dX5_marginOf_42 rfl (lv_at hl 3 rfl) ?_
      refine lv_iload_n hx hb dX5_marginOf_43 rfl (lv_at hl 1 rfl) ?_
      refine lv_iconst (v := 1) hx hb dX5_marginOf_44 (by decide) ?_
      obtain ⟨q6, hcq6, hf⟩ := bd_of hf
      refine kc_l (va_runV (As := [.int v1, .int v2, .int 1]) (rest := [.long x5]) ⟨hx, hb, hml, hown, hts⟩ (mX5_restOf l D dA ad σ _ v1 v2 1 q6 hcq6) (cwV 3 hts gX5_269 rfl rfl rfl (by decide +kernel) ⟨Nat.le_of_ble_eq_true rfl, Nat.le_of_ble_eq_true rfl⟩) (preV_of hR hK (f := 0) (i := 0) rfl rfl rfl _) rfl rfl hl.1 rfl (lv_room (Nat.le_of_ble_eq_true rfl)) dX5_marginOf_45 ⟨Nat.zero_le _, Nat.zero_le _⟩) hA hR hS (fun H locs hR hS => ?_)
      refine lv_ladd hx hb dX5_marginOf_48 ?_
      refine lv_topl (fun x7 hx7 => ?_)
      have hf := kst_eq hx7 hf
      refine lv_lstore (lv' := [(5, .long x7), (3, .long x5), (2, .int v2), (0, .ref (ad 0 0)), (1, .int v1)]) hx hb dX5_marginOf_49 hl (by decide) rfl (fun ls hl => ?_)
      refine lv_lload_n hx hb dX5_marginOf_51 rfl (lv_at hl 1 rfl) ?_
      refine lv_aload_n hx hb dX5_marginOf_52 rfl (lv_at hl 3 rfl) ?_
      refine lv_iload_n hx hb dX5_marginOf_53 rfl (lv_at hl 4 rfl) ?_
      refine lv_iload_n hx hb dX5_marginOf_54 rfl (lv_at hl 2 rfl) ?_
      refine lv_iconst (v := 0) hx hb dX5_marginOf_55 (by decide) ?_
      obtain ⟨q8, hcq8, hf⟩ := bd_of hf
      refine kc_l (va_runV (As := [.int v1, .int v2, .int 0]) (rest := [.long x5]) ⟨hx, hb, hml, hown, hts⟩ (mX5_restOf l D dA ad σ _ v1 v2 0 q8 hcq8) (cwV 3 hts gX5_269 rfl rfl rfl (by decide +kernel) ⟨Nat.le_of_ble_eq_true rfl, Nat.le_of_ble_eq_true rfl⟩) (preV_of hR hK (f := 0) (i := 0) rfl rfl rfl _) rfl rfl hl.1 rfl (lv_room (Nat.le_of_ble_eq_true rfl)) dX5_marginOf_56 ⟨Nat.zero_le _, Nat.zero_le _⟩) hA hR hS (fun H locs hR hS => ?_)
      refine lv_lsub hx hb dX5_marginOf_59 ?_
      refine lv_topl (fun x9 hx9 => ?_)
      have hf := kst_eq hx9 hf
      refine lv_lstore (lv' := [(7, .long x9), (5, .long x7), (3, .long x5), (2, .int v2), (0, .ref (ad 0 0)), (1, .int v1)]) hx hb dX5_marginOf_60 hl (by decide) rfl (fun ls hl => ?_)
      refine lv_iconst (v := 0) hx hb dX5_marginOf_62 (by decide) ?_
      refine lv_istore (lv' := [(9, .int 0), (7, .long x9), (5, .long x7), (3, .long x5), (2, .int v2), (0, .ref (ad 0 0)), (1, .int v1)]) hx hb dX5_marginOf_63 hl (by decide) rfl (fun ls hl => ?_)
      refine wX5_marginOf_L65 hC hK hA (fun H locs ls s15 y16 y17 y18 y19 y20 y21 hR hS hl hf => ?_) 1000 _ _ _ σ 0 x9 x7 x5 v2 v1 hR hS (lv_sub hl [0, 1, 2, 3, 4, 5, 6] rfl) hf
      obtain ⟨x22, hx22⟩ : ∃ y : Int32, y = y20 + 1 := ⟨_, rfl⟩
      have hf := kst_eq hx22 hf
      refine lv_iinc (v := x22) (lv' := [(2, .int x22), (9, .int y16), (7, .long y17), (5, .long y18), (3, .long y19), (0, .ref (ad 0 0)), (1, .int y21)]) hx hb dX5_marginOf_117 hl (k := 4) rfl (by rw [hx22]; rfl) (by decide) rfl (fun ls hl => ?_)
      refine lv_goto (tgt := 22) hx hb dX5_marginOf_120 (by decide) ?_
      exact ih _ _ _ s15 x22 y21 hR hS (lv_sub hl [0, 5, 6] rfl) hf
def fX5_marginOf_L128 {β : Type} (k : St → Int32 → Int64 → Int32 → Option β) : Nat → St → Int32 → Int64 → Int32 → Option (β)
  | 0, _, _, _, _ => none
  | n + 1, σ, v4, v2, v1 => if 4 ≤ v4 then k σ v4 v2 v1 else gd (vin v4 4) (kst ((if (gL σ 16 0 v4.toNatClampNeg) < v2 then v2 else (gL σ 16 0 v4.toNatClampNeg))) (fun x28 => kst (v4 + 1) (fun x29 => fX5_marginOf_L128 k n σ x29 x28 v1)))
set_option maxHeartbeats 4000000 in
set_option maxRecDepth 100000 in
theorem wX5_marginOf_L128 {p : Program} {l : Launch} {e : Env} {s : State} {m : MethodId} {args : Array Value} {below : List Frame} {meth : Method} {c : Code} {D : va_G} {dA : Nat → ClassId} {A0 : Nat → Prop} {ad : Nat → Nat → Nat} {β : Type} {o : β} {Q : State → Prop} {k : St → Int32 → Int64 → Int32 → Option β} (hC : CTX p s m args meth c cX5_marginOf 12 RX5 (some .long)) (hK : KS D dA s) (hA : ∀ q, s.heap.size ≤ q → A0 q) (hk : ∀ (H : Heap) (locs : List Loc) (ls : Array Slot) (σ : St) (v4 : Int32) (v2 : Int64) (v1 : Int32), HC D dA A0 ad σ H → va_S A0 s.heap H locs → lv_has ls 12 [(4, .int v4), (2, .long v2), (0, .ref (ad 0 0)), (1, .int v1)] → k σ v4 v2 v1 = some o → W p l e ({ frames := 4, cells := 0, slots := 0, locals := 91 } : Room) s m args below meth c H locs 0 0 Q (F0 m 152 ls [])) : ∀ (n : Nat) (H : Heap) (locs : List Loc) (ls : Array Slot) (σ : St) (v4 : Int32) (v2 : Int64) (v1 : Int32), HC D dA A0 ad σ H → va_S A0 s.heap H locs → lv_has ls 12 [(4, .int v4), (2, .long v2), (0, .ref (ad 0 0)), (1, .int v1)] → fX5_marginOf_L128 k n σ v4 v2 v1 = some o → W p l e ({ frames := 4, cells := 0, slots := 0, locals := 91 } : Room) s m args below meth c H locs 0 0 Q (F0 m 128 ls []) := by
  obtain ⟨hx, hb, hml, hown, hts, hr, hlk⟩ := id hC
  intro n
  induction n with
  | zero =>
    intro H locs ls σ v4 v2 v1 hR hS hl hf
    rw [fX5_marginOf_L128.eq_1] at hf
    cases hf
  | succ n ih =>
    intro H locs ls σ v4 v2 v1 hR hS hl hf
    rw [fX5_marginOf_L128.eq_2] at hf
    refine lv_iload hx hb dX5_marginOf_128 (lv_at hl 0 rfl) ?_
    refine lv_iconst (v := 4) hx hb dX5_marginOf_130 (by decide) ?_
    refine lv_icmp_ge (tgt := 152) hx hb dX5_marginOf_131 (by decide) (fun c26 => ?_) (fun c26 => ?_)
    · have hf := if_of_pos hf c26
      exact hk _ _ _ σ v4 v2 v1 hR hS (lv_sub hl [0, 1, 2, 3] rfl) hf
    · have hf := if_of_neg hf c26
      refine lv_lload_n hx hb dX5_marginOf_134 rfl (lv_at hl 1 rfl) ?_
      refine lv_aload_n hx hb dX5_marginOf_135 rfl (lv_at hl 2 rfl) ?_
      refine va_get (D := D) (ci := 6) (C := RX5) (T := TX5) (N := 8) hx hb hts iuX5 hown hK.1 (WW_one hR (f := 0) (i := 0) rfl) 0 rfl rfl 5 (by decide) (hts _ q_169) (fun _ h9 => h9) rfl dX5_marginOf_136 ?_
      refine lv_iload hx hb dX5_marginOf_139 (lv_at hl 0 rfl) ?_
      obtain ⟨g27, hf⟩ := gd_of hf
      refine va_lald hx hb hK.1 (WW_one hR (f := 16) (i := 0) rfl) 0 1 rfl rfl g27 dX5_marginOf_141 ?_
      refine va_mmax_long hx hb (hml.trans hl.1.symm) hown (hts _ q_402) (hts _ q_403) (hts _ q_48) (hts _ q_404) (Nat.le_of_ble_eq_true rfl) (Nat.le_of_ble_eq_true rfl) (Nat.le_of_ble_eq_true rfl) (Nat.le_of_ble_eq_true rfl) dX5_marginOf_142 ?_
      refine lv_topl (fun x28 hx28 => ?_)
      have hf := kst_eq hx28 hf
      refine lv_lstore_n (lv' := [(2, .long x28), (4, .int v4), (0, .ref (ad 0 0)), (1, .int v1)]) hx hb dX5_marginOf_145 rfl hl (by decide) rfl (fun ls hl => ?_)
      obtain ⟨x29, hx29⟩ : ∃ y : Int32, y = v4 + 1 := ⟨_, rfl⟩
      have hf := kst_eq hx29 hf
      refine lv_iinc (v := x29) (lv' := [(4, .int x29), (2, .long x28), (0, .ref (ad 0 0)), (1, .int v1)]) hx hb dX5_marginOf_146 hl (k := 1) rfl (by rw [hx29]; rfl) (by decide) rfl (fun ls hl => ?_)
      refine lv_goto (tgt := 128) hx hb dX5_marginOf_149 (by decide) ?_
      exact ih _ _ _ σ x29 x28 v1 hR hS (lv_sub hl [0, 1, 2, 3] rfl) hf
def fX5_marginOf_L2 : Nat → St → Int32 → Int32 → Option (Int64 × St)
  | 0, _, _, _ => none
  | n + 1, σ, v2, v1 => if 4 ≤ v2 then fX5_marginOf_L22 (fun s23 y24 y25 => fX5_marginOf_L128 (fun s30 y31 y32 y33 => some ((y32, s30))) 1000 s23 0 0 y25) 1000 σ 0 v1 else gd (vin v2 4) (kst (v2 + 1) (fun x35 => fX5_marginOf_L2 n (pL σ 16 0 v2.toNatClampNeg 0) x35 v1))
set_option maxHeartbeats 4000000 in
set_option maxRecDepth 100000 in
theorem wX5_marginOf_L2 {p : Program} {l : Launch} {e : Env} {s : State} {m : MethodId} {args : Array Value} {below : List Frame} {meth : Method} {c : Code} {D : va_G} {dA : Nat → ClassId} {A0 : Nat → Prop} {ad : Nat → Nat → Nat} {r : Int64} {σ' : St}  (hC : CTX p s m args meth c cX5_marginOf 12 RX5 (some .long)) (hK : KS D dA s) (hA : ∀ q, s.heap.size ≤ q → A0 q) : ∀ (n : Nat) (H : Heap) (locs : List Loc) (ls : Array Slot) (σ : St) (v2 : Int32) (v1 : Int32), HC D dA A0 ad σ H → va_S A0 s.heap H locs → lv_has ls 12 [(2, .int v2), (0, .ref (ad 0 0)), (1, .int v1)] → fX5_marginOf_L2 n σ v2 v1 = some (r, σ') → W p l e ({ frames := 4, cells := 0, slots := 0, locals := 91 } : Room) s m args below meth c H locs 0 0 (MQ below (va_Ql (fun (x : Int64) (_ : Unit) => x = r) (fun _ t => HC D dA A0 ad σ' t.heap) A0) args s 0 0 A0) (F0 m 2 ls []) := by
  obtain ⟨hx, hb, hml, hown, hts, hr, hlk⟩ := id hC
  intro n
  induction n with
  | zero =>
    intro H locs ls σ v2 v1 hR hS hl hf
    rw [fX5_marginOf_L2.eq_1] at hf
    cases hf
  | succ n ih =>
    intro H locs ls σ v2 v1 hR hS hl hf
    rw [fX5_marginOf_L2.eq_2] at hf
    refine lv_iload_n hx hb dX5_marginOf_2 rfl (lv_at hl 0 rfl) ?_
    refine lv_iconst (v := 4) hx hb dX5_marginOf_3 (by decide) ?_
    refine lv_icmp_ge (tgt := 20) hx hb dX5_marginOf_4 (by decide) (fun c1 => ?_) (fun c1 => ?_)
    · have hf := if_of_pos hf c1
      refine lv_iconst (v := 0) hx hb dX5_marginOf_20 (by decide) ?_
      refine lv_istore_n (lv' := [(2, .int 0), (0, .ref (ad 0 0)), (1, .int v1)]) hx hb dX5_marginOf_21 rfl hl (by decide) rfl (fun ls hl => ?_)
      refine wX5_marginOf_L22 hC hK hA (fun H locs ls s23 y24 y25 hR hS hl hf => ?_) 1000 _ _ _ σ 0 v1 hR hS (lv_sub hl [0, 1, 2] rfl) hf
      refine lv_lconst (v := 0) hx hb dX5_marginOf_123 (by decide) ?_
      refine lv_lstore_n (lv' := [(2, .long 0), (0, .ref (ad 0 0)), (1, .int y25)]) hx hb dX5_marginOf_124 rfl hl (by decide) rfl (fun ls hl => ?_)
      refine lv_iconst (v := 0) hx hb dX5_marginOf_125 (by decide) ?_
      refine lv_istore (lv' := [(4, .int 0), (2, .long 0), (0, .ref (ad 0 0)), (1, .int y25)]) hx hb dX5_marginOf_126 hl (by decide) rfl (fun ls hl => ?_)
      refine wX5_marginOf_L128 hC hK hA (fun H locs ls s30 y31 y32 y33 hR hS hl hf => ?_) 1000 _ _ _ s23 0 0 y25 hR hS (lv_sub hl [0, 1, 2, 3] rfl) hf
      refine lv_lload_n hx hb dX5_marginOf_152 rfl (lv_at hl 1 rfl) ?_
      cases hf
      exact ret_l hC hR hS dX5_marginOf_153
    · have hf := if_of_neg hf c1
      refine lv_aload_n hx hb dX5_marginOf_7 rfl (lv_at hl 1 rfl) ?_
      refine va_get (D := D) (ci := 6) (C := RX5) (T := TX5) (N := 8) hx hb hts iuX5 hown hK.1 (WW_one hR (f := 0) (i := 0) rfl) 0 rfl rfl 5 (by decide) (hts _ q_169) (fun _ h9 => h9) rfl dX5_marginOf_8 ?_
      refine lv_iload_n hx hb dX5_marginOf_11 rfl (lv_at hl 0 rfl) ?_
      refine lv_lconst (v := 0) hx hb dX5_marginOf_12 (by decide) ?_
      obtain ⟨g34, hf⟩ := gd_of hf
      refine ww_last hx hb hK.1 hR hS 1 (f := 16) (j := 0) rfl rfl rfl g34 dX5_marginOf_13 (fun H locs hR hS => ?_)
      have hR := HC_row16 0 (v2.toNatClampNeg) 0 hR
      obtain ⟨x35, hx35⟩ : ∃ y : Int32, y = v2 + 1 := ⟨_, rfl⟩
      have hf := kst_eq hx35 hf
      refine lv_iinc (v := x35) (lv' := [(2, .int x35), (0, .ref (ad 0 0)), (1, .int v1)]) hx hb dX5_marginOf_14 hl (k := 0) rfl (by rw [hx35]; rfl) (by decide) rfl (fun ls hl => ?_)
      refine lv_goto (tgt := 2) hx hb dX5_marginOf_17 (by decide) ?_
      exact ih _ _ _ (pL σ 16 0 v2.toNatClampNeg 0) x35 v1 hR hS (lv_sub hl [0, 1, 2] rfl) hf
def fX5_marginOf (σ : St) (a1 : Int32) : Option (Int64 × St) := fX5_marginOf_L2 1000 σ 0 a1
set_option maxHeartbeats 4000000 in
set_option maxRecDepth 100000 in
theorem mX5_marginOf (l : Launch) (D : va_G) (dA : Nat → ClassId) (ad : Nat → Nat → Nat) (σ : St) (sz : Nat) (a1 : Int32) (r : Int64) (σ' : St) (hf : fX5_marginOf σ a1 = some (r, σ')) : Met l yX5_marginOf (WSy yX5_marginOf cX5_marginOf 12 (some .long)) ({ frames := 4, cells := 0, slots := 0, locals := 91 } : Room) (va_Pc [.ref (ad 0 0), .int a1] (fun U => U.heap.size = sz ∧ HC D dA (fun _ => True) ad σ U.heap ∧ KS D dA U)) (va_Ql (fun (x : Int64) (_ : Unit) => x = r) (fun _ t => HC D dA (WA ad (cvC σ) sz) ad σ' t.heap) (WA ad (cvC σ) sz)) 0 0 (WA ad (cvC σ) sz) := by
  refine met_of (by decide) (Nat.le_of_ble_eq_true rfl) ?_
  intro p e s m below meth c ls hC hB hl
  obtain ⟨rfl, hR, hK⟩ := hB
  have hA : ∀ q : Nat, s.heap.size ≤ q → WA ad (cvC σ) s.heap.size q := fun q h => Or.inr h
  have hR := WW_fit (B := WA ad (cvC σ) s.heap.size) hR (fun f i h => WA_in h)
  have hS : va_S (WA ad (cvC σ) s.heap.size) s.heap s.heap [] := va_S.rf
  generalize WA ad (cvC σ) s.heap.size = A0 at hA hR hS ⊢
  have hC : CTX p s m _ meth c cX5_marginOf 12 RX5 (some .long) := hC
  obtain ⟨hx, hb, hml, hown, hts, hr, hlk⟩ := id hC
  have hl : lv_has ls 12 [(0, .ref (ad 0 0)), (1, .int a1)] := hl
  unfold fX5_marginOf at hf
  refine lv_iconst (v := 0) hx hb dX5_marginOf_0 (by decide) ?_
  refine lv_istore_n (lv' := [(2, .int 0), (0, .ref (ad 0 0)), (1, .int a1)]) hx hb dX5_marginOf_1 rfl hl (by decide) rfl (fun ls hl => ?_)
  exact wX5_marginOf_L2 hC hK hA 1000 _ _ _ σ 0 a1 hR hS (lv_sub hl [0, 1, 2] rfl) hf
def fX5_freeOf (σ : St) (a1 : Int32) : Option (Int64 × St) := bd (fX5_equityOf σ a1) (fun q1 => bd (fX5_collateralOf σ a1) (fun q2 => bd (fX5_marginOf σ a1) (fun q3 => some (((q1 + q2) - q3.1, q3.2)))))
set_option maxHeartbeats 4000000 in
set_option maxRecDepth 100000 in
theorem mX5_freeOf (l : Launch) (D : va_G) (dA : Nat → ClassId) (ad : Nat → Nat → Nat) (σ : St) (sz : Nat) (a1 : Int32) (r : Int64) (σ' : St) (hf : fX5_freeOf σ a1 = some (r, σ')) : Met l yX5_freeOf (WSy yX5_freeOf cX5_freeOf 2 (some .long)) ({ frames := 5, cells := 0, slots := 0, locals := 122 } : Room) (va_Pc [.ref (ad 0 0), .int a1] (fun U => U.heap.size = sz ∧ HC D dA (fun _ => True) ad σ U.heap ∧ KS D dA U)) (va_Ql (fun (x : Int64) (_ : Unit) => x = r) (fun _ t => HC D dA (WA ad (cvC σ) sz) ad σ' t.heap) (WA ad (cvC σ) sz)) 0 0 (WA ad (cvC σ) sz) := by
  refine met_of (by decide) (Nat.le_of_ble_eq_true rfl) ?_
  intro p e s m below meth c ls hC hB hl
  obtain ⟨rfl, hR, hK⟩ := hB
  have hA : ∀ q : Nat, s.heap.size ≤ q → WA ad (cvC σ) s.heap.size q := fun q h => Or.inr h
  have hR := WW_fit (B := WA ad (cvC σ) s.heap.size) hR (fun f i h => WA_in h)
  have hS : va_S (WA ad (cvC σ) s.heap.size) s.heap s.heap [] := va_S.rf
  generalize WA ad (cvC σ) s.heap.size = A0 at hA hR hS ⊢
  have hC : CTX p s m _ meth c cX5_freeOf 2 RX5 (some .long) := hC
  obtain ⟨hx, hb, hml, hown, hts, hr, hlk⟩ := id hC
  have hl : lv_has ls 2 [(0, .ref (ad 0 0)), (1, .int a1)] := hl
  unfold fX5_freeOf at hf
  refine lv_aload_n hx hb dX5_freeOf_0 rfl (lv_at hl 0 rfl) ?_
  refine lv_iload_n hx hb dX5_freeOf_1 rfl (lv_at hl 1 rfl) ?_
  obtain ⟨q1, hcq1, hf⟩ := bd_of hf
  refine kc_l (va_runV (As := [.int a1]) (rest := []) ⟨hx, hb, hml, hown, hts⟩ (mX5_equityOf l D dA ad σ _ a1 q1 hcq1) (cwV 1 hts gX5_174 rfl rfl rfl (by decide +kernel) ⟨Nat.le_of_ble_eq_true rfl, Nat.le_of_ble_eq_true rfl⟩) (preV_of hR hK (f := 0) (i := 0) rfl rfl rfl _) rfl rfl hl.1 rfl (lv_room (Nat.le_of_ble_eq_true rfl)) dX5_freeOf_2 ⟨Nat.zero_le _, Nat.zero_le _⟩) hA hR hS (fun H locs hR hS => ?_)
  refine lv_aload_n hx hb dX5_freeOf_5 rfl (lv_at hl 0 rfl) ?_
  refine lv_iload_n hx hb dX5_freeOf_6 rfl (lv_at hl 1 rfl) ?_
  obtain ⟨q2, hcq2, hf⟩ := bd_of hf
  refine kc_l (va_runV (As := [.int a1]) (rest := [.long q1]) ⟨hx, hb, hml, hown, hts⟩ (mX5_collateralOf l D dA ad σ _ a1 q2 hcq2) (cwV 1 hts gX5_189 rfl rfl rfl (by decide +kernel) ⟨Nat.le_of_ble_eq_true rfl, Nat.le_of_ble_eq_true rfl⟩) (preV_of hR hK (f := 0) (i := 0) rfl rfl rfl _) rfl rfl hl.1 rfl (lv_room (Nat.le_of_ble_eq_true rfl)) dX5_freeOf_7 ⟨Nat.zero_le _, Nat.zero_le _⟩) hA hR hS (fun H locs hR hS => ?_)
  refine lv_ladd hx hb dX5_freeOf_10 ?_
  refine lv_aload_n hx hb dX5_freeOf_11 rfl (lv_at hl 0 rfl) ?_
  refine lv_iload_n hx hb dX5_freeOf_12 rfl (lv_at hl 1 rfl) ?_
  obtain ⟨q3, hcq3, hf⟩ := bd_of hf
  refine kc_l (va_runV (As := [.int a1]) (rest := [.long (q1 + q2)]) ⟨hx, hb, hml, hown, hts⟩ (mX5_marginOf l D dA ad σ _ a1 q3.1 q3.2 hcq3) (cwV 1 hts gX5_186 rfl rfl rfl (by decide +kernel) ⟨Nat.le_of_ble_eq_true rfl, Nat.le_of_ble_eq_true rfl⟩) (preV_of hR hK (f := 0) (i := 0) rfl rfl rfl _) rfl rfl hl.1 rfl (lv_room (Nat.le_of_ble_eq_true rfl)) dX5_freeOf_13 ⟨Nat.zero_le _, Nat.zero_le _⟩) hA hR hS (fun H locs hR hS => ?_)
  refine lv_lsub hx hb dX5_freeOf_16 ?_
  cases hf
  exact ret_l hC hR hS dX5_freeOf_17
def fX5_bestResting_L5 (σ : St) : Nat → Int32 → (Option Nat) → Int32 → Int32 → Option (Option Nat)
  | 0, _, _, _, _ => none
  | n + 1, v4, v3, v1, v2 => if (nI (gN σ 0)) ≤ v4 then oc v3 (some (none)) (fun k2 => some (some k2)) else gd (vin v4 (gN σ 0)) (gd (lok0 σ) (if (gI σ 35 v4.toNatClampNeg 0) ≤ 0 then kst (v4 + 1) (fun x6 => fX5_bestResting_L5 σ n x6 v3 v1 v2) else if ¬ (gI σ 32 v4.toNatClampNeg 0) = v1 then kst (v4 + 1) (fun x8 => fX5_bestResting_L5 σ n x8 v3 v1 v2) else if ¬ (gI σ 33 v4.toNatClampNeg 0) = v2 then kst (v4 + 1) (fun x10 => fX5_bestResting_L5 σ n x10 v3 v1 v2) else oc v3 (kst (v4 + 1) (fun x12 => fX5_bestResting_L5 σ n x12 (some v4.toNatClampNeg) v1 v2)) (fun k11 => bd (fX5_isBetter σ v4.toNatClampNeg k11) (fun q13 => if q13 = 0 then kst (v4 + 1) (fun x15 => fX5_bestResting_L5 σ n x15 (some k11) v1 v2) else kst (v4 + 1) (fun x16 => fX5_bestResting_L5 σ n x16 (some v4.toNatClampNeg) v1 v2)))))
set_option maxHeartbeats 4000000 in
set_option maxRecDepth 100000 in
theorem wX5_bestResting_L5 {p : Program} {l : Launch} {e : Env} {s : State} {m : MethodId} {args : Array Value} {below : List Frame} {meth : Method} {c : Code} {D : va_G} {dA : Nat → ClassId} {A0 : Nat → Prop} {ad : Nat → Nat → Nat} {r : Option Nat} {σ : St} (hC : CTX p s m args meth c cX5_bestResting 6 RX5 (some (.object "MarginCourt$Order"))) (hK : KS D dA s) (hA : ∀ q, s.heap.size ≤ q → A0 q) : ∀ (n : Nat) (H : Heap) (locs : List Loc) (ls : Array Slot) (v4 : Int32) (v3 : Option Nat) (v1 : Int32) (v2 : Int32) (hv3 : ∀ k, v3 = some k → cvC σ 17 k), HC D dA A0 ad σ H → va_S A0 s.heap H locs → lv_has ls 6 [(4, .int v4), (3, va_re (ad 17) v3), (0, .ref (ad 0 0)), (1, .int v1), (2, .int v2)] → fX5_bestResting_L5 σ n v4 v3 v1 v2 = some r → W p l e ({ frames := 3, cells := 0, slots := 0, locals := 64 } : Room) s m args below meth c H locs 0 0 (MQ below (va_Qq (fun (x : Option Nat) (_ : Unit) => x = r.map (ad 17)) (fun _ t => HC D dA A0 ad σ t.heap) A0) args s 0 0 A0) (F0 m 5 ls []) := by
  obtain ⟨hx, hb, hml, hown, hts, hr, hlk⟩ := id hC
  intro n
  induction n with
  | zero =>
    intro H locs ls v4 v3 v1 v2 hv3 hR hS hl hf
    rw [fX5_bestResting_L5.eq_1] at hf
    cases hf
  | succ n ih =>
    intro H locs ls v4 v3 v1 v2 hv3 hR hS hl hf
    rw [fX5_bestResting_L5.eq_2] at hf
    refine lv_iload hx hb dX5_bestResting_5 (lv_at hl 0 rfl) ?_
    refine lv_aload_n hx hb dX5_bestResting_7 rfl (lv_at hl 2 rfl) ?_
    refine va_get (D := D) (ci := 6) (C := RX5) (T := TX5) (N := 8) hx hb hts iuX5 hown hK.1 (WW_one hR (f := 0) (i := 0) rfl) 0 rfl rfl 3 (by decide) (hts _ q_167) (fun _ h9 => h9) rfl dX5_bestResting_8 ?_
    refine ls_size12 (rest := [.int v4]) hC hK hA hR hS hl q_197 ⟨Nat.le_of_ble_eq_true rfl, Nat.le_of_ble_eq_true rfl⟩ (lv_room (Nat.le_of_ble_eq_true rfl)) ⟨Nat.zero_le _, Nat.zero_le _⟩ dX5_bestResting_11 (fun H locs hR hS => ?_)
    refine lv_icmp_ge (tgt := 79) hx hb dX5_bestResting_14 (by decide) (fun c1 => ?_) (fun c1 => ?_)
    · have hf := if_of_pos hf c1
      cases v3 with
      | none =>
        have hl : lv_has ls 6 [(4, .int v4), (3, .null), (0, .ref (ad 0 0)), (1, .int v1), (2, .int v2)] := hl
        have hf := oc_n hf
        refine lv_aload_nN hx hb dX5_bestResting_79 rfl (lv_at hl 1 rfl) ?_
        cases hf
        exact ret_q hC hR hS dX5_bestResting_80
      | some k2 =>
        have hl : lv_has ls 6 [(4, .int v4), (3, .ref (ad 17 k2)), (0, .ref (ad 0 0)), (1, .int v1), (2, .int v2)] := hl
        have hf := oc_s hf
        refine lv_aload_n hx hb dX5_bestResting_79 rfl (lv_at hl 1 rfl) ?_
        cases hf
        exact ret_q hC hR hS dX5_bestResting_80
    · have hf := if_of_neg hf c1
      refine lv_aload_n hx hb dX5_bestResting_17 rfl (lv_at hl 2 rfl) ?_
      refine va_get (D := D) (ci := 6) (C := RX5) (T := TX5) (N := 8) hx hb hts iuX5 hown hK.1 (WW_one hR (f := 0) (i := 0) rfl) 0 rfl rfl 3 (by decide) (hts _ q_167) (fun _ h9 => h9) rfl dX5_bestResting_18 ?_
      refine lv_iload hx hb dX5_bestResting_21 (lv_at hl 0 rfl) ?_
      obtain ⟨g3, hf⟩ := gd_of hf
      obtain ⟨g4, hf⟩ := gd_of hf
      refine ls_get12 (rest := []) hC hK hA hR hS hl g3 (vin_mono g3 g4.1) (Nat.lt_of_le_of_lt g4.1 g4.2.2) q_265 ⟨Nat.le_of_ble_eq_true rfl, Nat.le_of_ble_eq_true rfl⟩ (lv_room (Nat.le_of_ble_eq_true rfl)) ⟨Nat.zero_le _, Nat.zero_le _⟩ dX5_bestResting_23 (fun H locs hR hS => ?_)
      refine cast_of hx hb hown (hts _ q_279) hK (WW_at hR (f := 17) (i := v4.toNatClampNeg) (Nat.lt_of_lt_of_le (vin_lt g3) g4.2.1)) (ci := 3) rfl rfl dX5_bestResting_26 ?_
      refine lv_astore (lv' := [(5, .ref (ad 17 v4.toNatClampNeg)), (4, .int v4), (3, va_re (ad 17) v3), (0, .ref (ad 0 0)), (1, .int v1), (2, .int v2)]) hx hb dX5_bestResting_29 hl (by decide) (by cases v3 <;> rfl) (fun ls hl => ?_)
      refine lv_aload hx hb dX5_bestResting_31 (lv_at hl 0 rfl) ?_
      refine va_getN (D := D) (ci := 3) (C := RX2) (T := TX2) (N := 6) hx hb hts iuX2 hown hK.1 (WW_one hR (f := 17) (i := v4.toNatClampNeg) (Nat.lt_of_lt_of_le (vin_lt g3) g4.2.1)) 0 rfl rfl 5 (by decide) (nw_f hK.2 q_436) (fun _ h9 => h9) rfl dX5_bestResting_33 ?_
      refine lv_if_le (tgt := 73) hx hb dX5_bestResting_36 (by decide) (fun c5 => ?_) (fun c5 => ?_)
      · have hf := if_of_pos hf c5
        obtain ⟨x6, hx6⟩ : ∃ y : Int32, y = v4 + 1 := ⟨_, rfl⟩
        have hf := kst_eq hx6 hf
        refine lv_iinc (v := x6) (lv' := [(4, .int x6), (5, .ref (ad 17 v4.toNatClampNeg)), (3, va_re (ad 17) v3), (0, .ref (ad 0 0)), (1, .int v1), (2, .int v2)]) hx hb dX5_bestResting_73 hl (k := 1) rfl (by rw [hx6]; rfl) (by decide) (by cases v3 <;> rfl) (fun ls hl => ?_)
        refine lv_goto (tgt := 5) hx hb dX5_bestResting_76 (by decide) ?_
        exact ih _ _ _ x6 v3 v1 v2 hv3 hR hS (lv_sub hl [0, 2, 3, 4, 5] rfl) hf
      · have hf := if_of_neg hf c5
        refine lv_aload hx hb dX5_bestResting_39 (lv_at hl 0 rfl) ?_
        refine va_getN (D := D) (ci := 3) (C := RX2) (T := TX2) (N := 6) hx hb hts iuX2 hown hK.1 (WW_one hR (f := 17) (i := v4.toNatClampNeg) (Nat.lt_of_lt_of_le (vin_lt g3) g4.2.1)) 0 rfl rfl 2 (by decide) (nw_f hK.2 q_430) (fun _ h9 => h9) rfl dX5_bestResting_41 ?_
        refine lv_iload_n hx hb dX5_bestResting_44 rfl (lv_at hl 4 rfl) ?_
        refine lv_icmp_ne (tgt := 73) hx hb dX5_bestResting_45 (by decide) (fun c7 => ?_) (fun c7 => ?_)
        · have hf := if_of_pos hf c7
          obtain ⟨x8, hx8⟩ : ∃ y : Int32, y = v4 + 1 := ⟨_, rfl⟩
          have hf := kst_eq hx8 hf
          refine lv_iinc (v := x8) (lv' := [(4, .int x8), (5, .ref (ad 17 v4.toNatClampNeg)), (3, va_re (ad 17) v3), (0, .ref (ad 0 0)), (1, .int v1), (2, .int v2)]) hx hb dX5_bestResting_73 hl (k := 1) rfl (by rw [hx8]; rfl) (by decide) (by cases v3 <;> rfl) (fun ls hl => ?_)
          refine lv_goto (tgt := 5) hx hb dX5_bestResting_76 (by decide) ?_
          exact ih _ _ _ x8 v3 v1 v2 hv3 hR hS (lv_sub hl [0, 2, 3, 4, 5] rfl) hf
        · have hf := if_of_neg hf (fun q => q c7)
          refine lv_aload hx hb dX5_bestResting_48 (lv_at hl 0 rfl) ?_
          refine va_getN (D := D) (ci := 3) (C := RX2) (T := TX2) (N := 6) hx hb hts iuX2 hown hK.1 (WW_one hR (f := 17) (i := v4.toNatClampNeg) (Nat.lt_of_lt_of_le (vin_lt g3) g4.2.1)) 0 rfl rfl 3 (by decide) (nw_f hK.2 q_432) (fun _ h9 => h9) rfl dX5_bestResting_50 ?_
          refine lv_iload_n hx hb dX5_bestResting_53 rfl (lv_at hl 5 rfl) ?_
          refine lv_icmp_ne (tgt := 73) hx hb dX5_bestResting_54 (by decide) (fun c9 => ?_) (fun c9 => ?_)
          · have hf := if_of_pos hf c9
            obtain ⟨x10, hx10⟩ : ∃ y : Int32, y = v4 + 1 := ⟨_, rfl⟩
            have hf := kst_eq hx10 hf
            refine lv_iinc (v := x10) (lv' := [(4, .int x10), (5, .ref (ad 17 v4.toNatClampNeg)), (3, va_re (ad 17) v3), (0, .ref (ad 0 0)), (1, .int v1), (2, .int v2)]) hx hb dX5_bestResting_73 hl (k := 1) rfl (by rw [hx10]; rfl) (by decide) (by cases v3 <;> rfl) (fun ls hl => ?_)
            refine lv_goto (tgt := 5) hx hb dX5_bestResting_76 (by decide) ?_
            exact ih _ _ _ x10 v3 v1 v2 hv3 hR hS (lv_sub hl [0, 2, 3, 4, 5] rfl) hf
          · have hf := if_of_neg hf (fun q => q c9)
            cases v3 with
            | none =>
              have hl : lv_has ls 6 [(5, .ref (ad 17 v4.toNatClampNeg)), (4, .int v4), (3, .null), (0, .ref (ad 0 0)), (1, .int v1), (2, .int v2)] := hl
              have hf := oc_n hf
              refine lv_aload_nN hx hb dX5_bestResting_57 rfl (lv_at hl 2 rfl) ?_
              refine lv_ifnullN (tgt := 70) hx hb dX5_bestResting_58 (by decide) ?_
              refine lv_aload hx hb dX5_bestResting_70 (lv_at hl 0 rfl) ?_
              refine lv_astore_n (lv' := [(3, .ref (ad 17 v4.toNatClampNeg)), (5, .ref (ad 17 v4.toNatClampNeg)), (4, .int v4), (0, .ref (ad 0 0)), (1, .int v1), (2, .int v2)]) hx hb dX5_bestResting_72 rfl hl (by decide) rfl (fun ls hl => ?_)
              obtain ⟨x12, hx12⟩ : ∃ y : Int32, y = v4 + 1 := ⟨_, rfl⟩
              have hf := kst_eq hx12 hf
              refine lv_iinc (v := x12) (lv' := [(4, .int x12), (3, .ref (ad 17 v4.toNatClampNeg)), (5, .ref (ad 17 v4.toNatClampNeg)), (0, .ref (ad 0 0)), (1, .int v1), (2, .int v2)]) hx hb dX5_bestResting_73 hl (k := 2) rfl (by rw [hx12]; rfl) (by decide) rfl (fun ls hl => ?_)
              refine lv_goto (tgt := 5) hx hb dX5_bestResting_76 (by decide) ?_
              exact ih _ _ _ x12 (some v4.toNatClampNeg) v1 v2 (fun _ q => by cases q; exact (Nat.lt_of_lt_of_le (vin_lt g3) g4.2.1)) hR hS (lv_sub hl [0, 1, 3, 4, 5] rfl) hf
            | some k11 =>
              have hl : lv_has ls 6 [(5, .ref (ad 17 v4.toNatClampNeg)), (4, .int v4), (3, .ref (ad 17 k11)), (0, .ref (ad 0 0)), (1, .int v1), (2, .int v2)] := hl
              have hf := oc_s hf
              refine lv_aload_n hx hb dX5_bestResting_57 rfl (lv_at hl 2 rfl) ?_
              refine lv_ifnull hx hb dX5_bestResting_58 ?_
              refine lv_aload hx hb dX5_bestResting_61 (lv_at hl 0 rfl) ?_
              refine lv_aload_n hx hb dX5_bestResting_63 rfl (lv_at hl 2 rfl) ?_
              obtain ⟨q13, hcq13, hf⟩ := bd_of hf
              refine kc_i (va_runS (As := [.ref (ad 17 v4.toNatClampNeg), .ref (ad 17 k11)]) (rest := []) ⟨hx, hb, hml, hown, hts⟩ (mX5_isBetter l D dA ad σ _ v4.toNatClampNeg k11 q13 hcq13 (Nat.lt_of_lt_of_le (vin_lt g3) g4.2.1) (hv3 _ rfl)) (va_cwS 2 hts gX5_210 rfl rfl rfl (by decide +kernel) ⟨Nat.le_of_ble_eq_true rfl, Nat.le_of_ble_eq_true rfl⟩) (preS_of hR hK _) rfl rfl hl.1 rfl (lv_room (Nat.le_of_ble_eq_true rfl)) dX5_bestResting_64 ⟨Nat.zero_le _, Nat.zero_le _⟩) hA hR hS (fun H locs hR hS => ?_)
              refine lv_if_eq (tgt := 73) hx hb dX5_bestResting_67 (by decide) (fun c14 => ?_) (fun c14 => ?_)
              · have hf := if_of_pos hf c14
                obtain ⟨x15, hx15⟩ : ∃ y : Int32, y = v4 + 1 := ⟨_, rfl⟩
                have hf := kst_eq hx15 hf
                refine lv_iinc (v := x15) (lv' := [(4, .int x15), (5, .ref (ad 17 v4.toNatClampNeg)), (3, .ref (ad 17 k11)), (0, .ref (ad 0 0)), (1, .int v1), (2, .int v2)]) hx hb dX5_bestResting_73 hl (k := 1) rfl (by rw [hx15]; rfl) (by decide) rfl (fun ls hl => ?_)
                refine lv_goto (tgt := 5) hx hb dX5_bestResting_76 (by decide) ?_
                exact ih _ _ _ x15 (some k11) v1 v2 (fun _ q => by cases q; exact (hv3 _ rfl)) hR hS (lv_sub hl [0, 2, 3, 4, 5] rfl) hf
              · have hf := if_of_neg hf c14
                refine lv_aload hx hb dX5_bestResting_70 (lv_at hl 0 rfl) ?_
                refine lv_astore_n (lv' := [(3, .ref (ad 17 v4.toNatClampNeg)), (5, .ref (ad 17 v4.toNatClampNeg)), (4, .int v4), (0, .ref (ad 0 0)), (1, .int v1), (2, .int v2)]) hx hb dX5_bestResting_72 rfl hl (by decide) rfl (fun ls hl => ?_)
                obtain ⟨x16, hx16⟩ : ∃ y : Int32, y = v4 + 1 := ⟨_, rfl⟩
                have hf := kst_eq hx16 hf
                refine lv_iinc (v := x16) (lv' := [(4, .int x16), (3, .ref (ad 17 v4.toNatClampNeg)), (5, .ref (ad 17 v4.toNatClampNeg)), (0, .ref (ad 0 0)), (1, .int v1), (2, .int v2)]) hx hb dX5_bestResting_73 hl (k := 2) rfl (by rw [hx16]; rfl) (by decide) rfl (fun ls hl => ?_)
                refine lv_goto (tgt := 5) hx hb dX5_bestResting_76 (by decide) ?_
                exact ih _ _ _ x16 (some v4.toNatClampNeg) v1 v2 (fun _ q => by cases q; exact (Nat.lt_of_lt_of_le (vin_lt g3) g4.2.1)) hR hS (lv_sub hl [0, 1, 3, 4, 5] rfl) hf
def fX5_bestResting (σ : St) (a1 : Int32) (a2 : Int32) : Option (Option Nat) := fX5_bestResting_L5 σ 1000 0 none a1 a2
set_option maxHeartbeats 4000000 in
set_option maxRecDepth 100000 in
theorem mX5_bestResting (l : Launch) (D : va_G) (dA : Nat → ClassId) (ad : Nat → Nat → Nat) (σ : St) (sz : Nat) (a1 : Int32) (a2 : Int32) (r : Option Nat) (hf : fX5_bestResting σ a1 a2 = some r) : Met l yX5_bestResting (WSy yX5_bestResting cX5_bestResting 6 (some (.object "MarginCourt$Order"))) ({ frames := 3, cells := 0, slots := 0, locals := 64 } : Room) (va_Pc [.ref (ad 0 0), .int a1, .int a2] (fun U => U.heap.size = sz ∧ HC D dA (fun _ => True) ad σ U.heap ∧ KS D dA U)) (va_Qq (fun (x : Option Nat) (_ : Unit) => x = r.map (ad 17)) (fun _ t => HC D dA (WA ad (cvC σ) sz) ad σ t.heap) (WA ad (cvC σ) sz)) 0 0 (WA ad (cvC σ) sz) := by
  refine met_of (by decide) (Nat.le_of_ble_eq_true rfl) ?_
  intro p e s m below meth c ls hC hB hl
  obtain ⟨rfl, hR, hK⟩ := hB
  have hA : ∀ q : Nat, s.heap.size ≤ q → WA ad (cvC σ) s.heap.size q := fun q h => Or.inr h
  have hR := WW_fit (B := WA ad (cvC σ) s.heap.size) hR (fun f i h => WA_in h)
  have hS : va_S (WA ad (cvC σ) s.heap.size) s.heap s.heap [] := va_S.rf
  generalize WA ad (cvC σ) s.heap.size = A0 at hA hR hS ⊢
  have hC : CTX p s m _ meth c cX5_bestResting 6 RX5 (some (.object "MarginCourt$Order")) := hC
  obtain ⟨hx, hb, hml, hown, hts, hr, hlk⟩ := id hC
  have hl : lv_has ls 6 [(0, .ref (ad 0 0)), (1, .int a1), (2, .int a2)] := hl
  unfold fX5_bestResting at hf
  refine lv_null hx hb dX5_bestResting_0 ?_
  refine lv_astore_nN (lv' := [(3, .null), (0, .ref (ad 0 0)), (1, .int a1), (2, .int a2)]) hx hb dX5_bestResting_1 rfl hl (by decide) rfl (fun ls hl => ?_)
  refine lv_iconst (v := 0) hx hb dX5_bestResting_2 (by decide) ?_
  refine lv_istore (lv' := [(4, .int 0), (3, .null), (0, .ref (ad 0 0)), (1, .int a1), (2, .int a2)]) hx hb dX5_bestResting_3 hl (by decide) rfl (fun ls hl => ?_)
  exact wX5_bestResting_L5 hC hK hA 1000 _ _ _ 0 none a1 a2 (fun _ q => nomatch q) hR hS (lv_sub hl [0, 1, 2, 3, 4] rfl) hf
def fX5_cancelOrdersFor_L4 : Nat → St → Int32 → Int32 → Int32 → Option (Int32 × St)
  | 0, _, _, _, _ => none
  | n + 1, σ, v3, v2, v1 => if (nI (gN σ 0)) ≤ v3 then some ((v2, σ)) else gd (vin v3 (gN σ 0)) (gd (lok0 σ) (if (gI σ 35 v3.toNatClampNeg 0) ≤ 0 then kst (v3 + 1) (fun x5 => fX5_cancelOrdersFor_L4 n σ x5 v2 v1) else if ¬ (gI σ 32 v3.toNatClampNeg 0) = v1 then kst (v3 + 1) (fun x7 => fX5_cancelOrdersFor_L4 n σ x7 v2 v1) else kst (v2 + 1) (fun x8 => kst (v3 + 1) (fun x9 => fX5_cancelOrdersFor_L4 n (pI σ 35 v3.toNatClampNeg 0 0) x9 x8 v1))))
set_option maxHeartbeats 4000000 in
set_option maxRecDepth 100000 in
theorem wX5_cancelOrdersFor_L4 {p : Program} {l : Launch} {e : Env} {s : State} {m : MethodId} {args : Array Value} {below : List Frame} {meth : Method} {c : Code} {D : va_G} {dA : Nat → ClassId} {A0 : Nat → Prop} {ad : Nat → Nat → Nat} {r : Int32} {σ' : St}  (hC : CTX p s m args meth c cX5_cancelOrdersFor 5 RX5 (some .int)) (hK : KS D dA s) (hA : ∀ q, s.heap.size ≤ q → A0 q) : ∀ (n : Nat) (H : Heap) (locs : List Loc) (ls : Array Slot) (σ : St) (v3 : Int32) (v2 : Int32) (v1 : Int32), HC D dA A0 ad σ H → va_S A0 s.heap H locs → lv_has ls 5 [(3, .int v3), (2, .int v2), (0, .ref (ad 0 0)), (1, .int v1)] → fX5_cancelOrdersFor_L4 n σ v3 v2 v1 = some (r, σ') → W p l e ({ frames := 3, cells := 0, slots := 0, locals := 64 } : Room) s m args below meth c H locs 0 0 (MQ below (va_Qi (fun (x : Int32) (_ : Unit) => x = r) (fun _ t => HC D dA A0 ad σ' t.heap) A0) args s 0 0 A0) (F0 m 4 ls []) := by
  obtain ⟨hx, hb, hml, hown, hts, hr, hlk⟩ := id hC
  intro n
  induction n with
  | zero =>
    intro H locs ls σ v3 v2 v1 hR hS hl hf
    rw [fX5_cancelOrdersFor_L4.eq_1] at hf
    cases hf
  | succ n ih =>
    intro H locs ls σ v3 v2 v1 hR hS hl hf
    rw [fX5_cancelOrdersFor_L4.eq_2] at hf
    refine lv_iload_n hx hb dX5_cancelOrdersFor_4 rfl (lv_at hl 0 rfl) ?_
    refine lv_aload_n hx hb dX5_cancelOrdersFor_5 rfl (lv_at hl 2 rfl) ?_
    refine va_get (D := D) (ci := 6) (C := RX5) (T := TX5) (N := 8) hx hb hts iuX5 hown hK.1 (WW_one hR (f := 0) (i := 0) rfl) 0 rfl rfl 3 (by decide) (hts _ q_167) (fun _ h9 => h9) rfl dX5_cancelOrdersFor_6 ?_
    refine ls_size12 (rest := [.int v3]) hC hK hA hR hS hl q_197 ⟨Nat.le_of_ble_eq_true rfl, Nat.le_of_ble_eq_true rfl⟩ (lv_room (Nat.le_of_ble_eq_true rfl)) ⟨Nat.zero_le _, Nat.zero_le _⟩ dX5_cancelOrdersFor_9 (fun H locs hR hS => ?_)
    refine lv_icmp_ge (tgt := 60) hx hb dX5_cancelOrdersFor_12 (by decide) (fun c1 => ?_) (fun c1 => ?_)
    · have hf := if_of_pos hf c1
      refine lv_iload_n hx hb dX5_cancelOrdersFor_60 rfl (lv_at hl 1 rfl) ?_
      cases hf
      exact ret_i hC hR hS dX5_cancelOrdersFor_61
    · have hf := if_of_neg hf c1
      refine lv_aload_n hx hb dX5_cancelOrdersFor_15 rfl (lv_at hl 2 rfl) ?_
      refine va_get (D := D) (ci := 6) (C := RX5) (T := TX5) (N := 8) hx hb hts iuX5 hown hK.1 (WW_one hR (f := 0) (i := 0) rfl) 0 rfl rfl 3 (by decide) (hts _ q_167) (fun _ h9 => h9) rfl dX5_cancelOrdersFor_16 ?_
      refine lv_iload_n hx hb dX5_cancelOrdersFor_19 rfl (lv_at hl 0 rfl) ?_
      obtain ⟨g2, hf⟩ := gd_of hf
      obtain ⟨g3, hf⟩ := gd_of hf
      refine ls_get12 (rest := []) hC hK hA hR hS hl g2 (vin_mono g2 g3.1) (Nat.lt_of_le_of_lt g3.1 g3.2.2) q_265 ⟨Nat.le_of_ble_eq_true rfl, Nat.le_of_ble_eq_true rfl⟩ (lv_room (Nat.le_of_ble_eq_true rfl)) ⟨Nat.zero_le _, Nat.zero_le _⟩ dX5_cancelOrdersFor_20 (fun H locs hR hS => ?_)
      refine cast_of hx hb hown (hts _ q_279) hK (WW_at hR (f := 17) (i := v3.toNatClampNeg) (Nat.lt_of_lt_of_le (vin_lt g2) g3.2.1)) (ci := 3) rfl rfl dX5_cancelOrdersFor_23 ?_
      refine lv_astore (lv' := [(4, .ref (ad 17 v3.toNatClampNeg)), (3, .int v3), (2, .int v2), (0, .ref (ad 0 0)), (1, .int v1)]) hx hb dX5_cancelOrdersFor_26 hl (by decide) rfl (fun ls hl => ?_)
      refine lv_aload hx hb dX5_cancelOrdersFor_28 (lv_at hl 0 rfl) ?_
      refine va_getN (D := D) (ci := 3) (C := RX2) (T := TX2) (N := 6) hx hb hts iuX2 hown hK.1 (WW_one hR (f := 17) (i := v3.toNatClampNeg) (Nat.lt_of_lt_of_le (vin_lt g2) g3.2.1)) 0 rfl rfl 5 (by decide) (nw_f hK.2 q_436) (fun _ h9 => h9) rfl dX5_cancelOrdersFor_30 ?_
      refine lv_if_le (tgt := 54) hx hb dX5_cancelOrdersFor_33 (by decide) (fun c4 => ?_) (fun c4 => ?_)
      · have hf := if_of_pos hf c4
        obtain ⟨x5, hx5⟩ : ∃ y : Int32, y = v3 + 1 := ⟨_, rfl⟩
        have hf := kst_eq hx5 hf
        refine lv_iinc (v := x5) (lv' := [(3, .int x5), (4, .ref (ad 17 v3.toNatClampNeg)), (2, .int v2), (0, .ref (ad 0 0)), (1, .int v1)]) hx hb dX5_cancelOrdersFor_54 hl (k := 1) rfl (by rw [hx5]; rfl) (by decide) rfl (fun ls hl => ?_)
        refine lv_goto (tgt := 4) hx hb dX5_cancelOrdersFor_57 (by decide) ?_
        exact ih _ _ _ σ x5 v2 v1 hR hS (lv_sub hl [0, 2, 3, 4] rfl) hf
      · have hf := if_of_neg hf c4
        refine lv_aload hx hb dX5_cancelOrdersFor_36 (lv_at hl 0 rfl) ?_
        refine va_getN (D := D) (ci := 3) (C := RX2) (T := TX2) (N := 6) hx hb hts iuX2 hown hK.1 (WW_one hR (f := 17) (i := v3.toNatClampNeg) (Nat.lt_of_lt_of_le (vin_lt g2) g3.2.1)) 0 rfl rfl 2 (by decide) (nw_f hK.2 q_430) (fun _ h9 => h9) rfl dX5_cancelOrdersFor_38 ?_
        refine lv_iload_n hx hb dX5_cancelOrdersFor_41 rfl (lv_at hl 4 rfl) ?_
        refine lv_icmp_ne (tgt := 54) hx hb dX5_cancelOrdersFor_42 (by decide) (fun c6 => ?_) (fun c6 => ?_)
        · have hf := if_of_pos hf c6
          obtain ⟨x7, hx7⟩ : ∃ y : Int32, y = v3 + 1 := ⟨_, rfl⟩
          have hf := kst_eq hx7 hf
          refine lv_iinc (v := x7) (lv' := [(3, .int x7), (4, .ref (ad 17 v3.toNatClampNeg)), (2, .int v2), (0, .ref (ad 0 0)), (1, .int v1)]) hx hb dX5_cancelOrdersFor_54 hl (k := 1) rfl (by rw [hx7]; rfl) (by decide) rfl (fun ls hl => ?_)
          refine lv_goto (tgt := 4) hx hb dX5_cancelOrdersFor_57 (by decide) ?_
          exact ih _ _ _ σ x7 v2 v1 hR hS (lv_sub hl [0, 2, 3, 4] rfl) hf
        · have hf := if_of_neg hf (fun q => q c6)
          refine lv_aload hx hb dX5_cancelOrdersFor_45 (lv_at hl 0 rfl) ?_
          refine lv_iconst (v := 0) hx hb dX5_cancelOrdersFor_47 (by decide) ?_
          refine ww_putN (D := D) (ci := 3) (C := RX2) (T := TX2) (N := 6) (ty := .int) hx hb hts iuX2 tyX2 tyX2_ok nmX2 hown hK.1 hR hS (f := 17) (i := v3.toNatClampNeg) (Nat.lt_of_lt_of_le (vin_lt g2) g3.2.1) rfl rfl 5 (by decide) (nw_f hK.2 q_436) (fun _ h9 => h9) rfl (by decide +kernel) rfl rfl (Nat.le_of_ble_eq_true rfl) dX5_cancelOrdersFor_48 (fun H locs hR hS => ?_)
          have hR := HC_Order_rest v3.toNatClampNeg 0 hR
          obtain ⟨x8, hx8⟩ : ∃ y : Int32, y = v2 + 1 := ⟨_, rfl⟩
          have hf := kst_eq hx8 hf
          refine lv_iinc (v := x8) (lv' := [(2, .int x8), (4, .ref (ad 17 v3.toNatClampNeg)), (3, .int v3), (0, .ref (ad 0 0)), (1, .int v1)]) hx hb dX5_cancelOrdersFor_51 hl (k := 2) rfl (by rw [hx8]; rfl) (by decide) rfl (fun ls hl => ?_)
          obtain ⟨x9, hx9⟩ : ∃ y : Int32, y = v3 + 1 := ⟨_, rfl⟩
          have hf := kst_eq hx9 hf
          refine lv_iinc (v := x9) (lv' := [(3, .int x9), (2, .int x8), (4, .ref (ad 17 v3.toNatClampNeg)), (0, .ref (ad 0 0)), (1, .int v1)]) hx hb dX5_cancelOrdersFor_54 hl (k := 2) rfl (by rw [hx9]; rfl) (by decide) rfl (fun ls hl => ?_)
          refine lv_goto (tgt := 4) hx hb dX5_cancelOrdersFor_57 (by decide) ?_
          exact ih _ _ _ (pI σ 35 v3.toNatClampNeg 0 0) x9 x8 v1 hR hS (lv_sub hl [0, 1, 3, 4] rfl) hf
def fX5_cancelOrdersFor (σ : St) (a1 : Int32) : Option (Int32 × St) := fX5_cancelOrdersFor_L4 1000 σ 0 0 a1
set_option maxHeartbeats 4000000 in
set_option maxRecDepth 100000 in
theorem mX5_cancelOrdersFor (l : Launch) (D : va_G) (dA : Nat → ClassId) (ad : Nat → Nat → Nat) (σ : St) (sz : Nat) (a1 : Int32) (r : Int32) (σ' : St) (hf : fX5_cancelOrdersFor σ a1 = some (r, σ')) : Met l yX5_cancelOrdersFor (WSy yX5_cancelOrdersFor cX5_cancelOrdersFor 5 (some .int)) ({ frames := 3, cells := 0, slots := 0, locals := 64 } : Room) (va_Pc [.ref (ad 0 0), .int a1] (fun U => U.heap.size = sz ∧ HC D dA (fun _ => True) ad σ U.heap ∧ KS D dA U)) (va_Qi (fun (x : Int32) (_ : Unit) => x = r) (fun _ t => HC D dA (WA ad (cvC σ) sz) ad σ' t.heap) (WA ad (cvC σ) sz)) 0 0 (WA ad (cvC σ) sz) := by
  refine met_of (by decide) (Nat.le_of_ble_eq_true rfl) ?_
  intro p e s m below meth c ls hC hB hl
  obtain ⟨rfl, hR, hK⟩ := hB
  have hA : ∀ q : Nat, s.heap.size ≤ q → WA ad (cvC σ) s.heap.size q := fun q h => Or.inr h
  have hR := WW_fit (B := WA ad (cvC σ) s.heap.size) hR (fun f i h => WA_in h)
  have hS : va_S (WA ad (cvC σ) s.heap.size) s.heap s.heap [] := va_S.rf
  generalize WA ad (cvC σ) s.heap.size = A0 at hA hR hS ⊢
  have hC : CTX p s m _ meth c cX5_cancelOrdersFor 5 RX5 (some .int) := hC
  obtain ⟨hx, hb, hml, hown, hts, hr, hlk⟩ := id hC
  have hl : lv_has ls 5 [(0, .ref (ad 0 0)), (1, .int a1)] := hl
  unfold fX5_cancelOrdersFor at hf
  refine lv_iconst (v := 0) hx hb dX5_cancelOrdersFor_0 (by decide) ?_
  refine lv_istore_n (lv' := [(2, .int 0), (0, .ref (ad 0 0)), (1, .int a1)]) hx hb dX5_cancelOrdersFor_1 rfl hl (by decide) rfl (fun ls hl => ?_)
  refine lv_iconst (v := 0) hx hb dX5_cancelOrdersFor_2 (by decide) ?_
  refine lv_istore_n (lv' := [(3, .int 0), (2, .int 0), (0, .ref (ad 0 0)), (1, .int a1)]) hx hb dX5_cancelOrdersFor_3 rfl hl (by decide) rfl (fun ls hl => ?_)
  exact wX5_cancelOrdersFor_L4 hC hK hA 1000 _ _ _ σ 0 0 a1 hR hS (lv_sub hl [0, 1, 2, 3] rfl) hf
def fX5_cancelOrdersOf_L2 : Nat → St → Int32 → Int32 → Option (St)
  | 0, _, _, _ => none
  | n + 1, σ, v2, v1 => if (nI (gN σ 0)) ≤ v2 then some (σ) else gd (vin v2 (gN σ 0)) (gd (lok0 σ) (if ¬ (gI σ 31 v2.toNatClampNeg 0) = v1 then kst (v2 + 1) (fun x5 => fX5_cancelOrdersOf_L2 n σ x5 v1) else kst (v2 + 1) (fun x6 => fX5_cancelOrdersOf_L2 n (pI σ 35 v2.toNatClampNeg 0 0) x6 v1)))
set_option maxHeartbeats 4000000 in
set_option maxRecDepth 100000 in
theorem wX5_cancelOrdersOf_L2 {p : Program} {l : Launch} {e : Env} {s : State} {m : MethodId} {args : Array Value} {below : List Frame} {meth : Method} {c : Code} {D : va_G} {dA : Nat → ClassId} {A0 : Nat → Prop} {ad : Nat → Nat → Nat} {σ' : St}  (hC : CTX p s m args meth c cX5_cancelOrdersOf 4 RX5 none) (hK : KS D dA s) (hA : ∀ q, s.heap.size ≤ q → A0 q) : ∀ (n : Nat) (H : Heap) (locs : List Loc) (ls : Array Slot) (σ : St) (v2 : Int32) (v1 : Int32), HC D dA A0 ad σ H → va_S A0 s.heap H locs → lv_has ls 4 [(2, .int v2), (0, .ref (ad 0 0)), (1, .int v1)] → fX5_cancelOrdersOf_L2 n σ v2 v1 = some σ' → W p l e ({ frames := 3, cells := 0, slots := 0, locals := 64 } : Room) s m args below meth c H locs 0 0 (MQ below (va_Qv (fun (_ : Unit) => True) (fun _ t => HC D dA A0 ad σ' t.heap) A0) args s 0 0 A0) (F0 m 2 ls []) := by
  obtain ⟨hx, hb, hml, hown, hts, hr, hlk⟩ := id hC
  intro n
  induction n with
  | zero =>
    intro H locs ls σ v2 v1 hR hS hl hf
    rw [fX5_cancelOrdersOf_L2.eq_1] at hf
    cases hf
  | succ n ih =>
    intro H locs ls σ v2 v1 hR hS hl hf
    rw [fX5_cancelOrdersOf_L2.eq_2] at hf
    refine lv_iload_n hx hb dX5_cancelOrdersOf_2 rfl (lv_at hl 0 rfl) ?_
    refine lv_aload_n hx hb dX5_cancelOrdersOf_3 rfl (lv_at hl 1 rfl) ?_
    refine va_get (D := D) (ci := 6) (C := RX5) (T := TX5) (N := 8) hx hb hts iuX5 hown hK.1 (WW_one hR (f := 0) (i := 0) rfl) 0 rfl rfl 3 (by decide) (hts _ q_167) (fun _ h9 => h9) rfl dX5_cancelOrdersOf_4 ?_
    refine ls_size12 (rest := [.int v2]) hC hK hA hR hS hl q_197 ⟨Nat.le_of_ble_eq_true rfl, Nat.le_of_ble_eq_true rfl⟩ (lv_room (Nat.le_of_ble_eq_true rfl)) ⟨Nat.zero_le _, Nat.zero_le _⟩ dX5_cancelOrdersOf_7 (fun H locs hR hS => ?_)
    refine lv_icmp_ge (tgt := 44) hx hb dX5_cancelOrdersOf_10 (by decide) (fun c1 => ?_) (fun c1 => ?_)
    · have hf := if_of_pos hf c1
      cases hf
      exact ret_v hC hR hS dX5_cancelOrdersOf_44
    · have hf := if_of_neg hf c1
      refine lv_aload_n hx hb dX5_cancelOrdersOf_13 rfl (lv_at hl 1 rfl) ?_
      refine va_get (D := D) (ci := 6) (C := RX5) (T := TX5) (N := 8) hx hb hts iuX5 hown hK.1 (WW_one hR (f := 0) (i := 0) rfl) 0 rfl rfl 3 (by decide) (hts _ q_167) (fun _ h9 => h9) rfl dX5_cancelOrdersOf_14 ?_
      refine lv_iload_n hx hb dX5_cancelOrdersOf_17 rfl (lv_at hl 0 rfl) ?_
      obtain ⟨g2, hf⟩ := gd_of hf
      obtain ⟨g3, hf⟩ := gd_of hf
      refine ls_get12 (rest := []) hC hK hA hR hS hl g2 (vin_mono g2 g3.1) (Nat.lt_of_le_of_lt g3.1 g3.2.2) q_265 ⟨Nat.le_of_ble_eq_true rfl, Nat.le_of_ble_eq_true rfl⟩ (lv_room (Nat.le_of_ble_eq_true rfl)) ⟨Nat.zero_le _, Nat.zero_le _⟩ dX5_cancelOrdersOf_18 (fun H locs hR hS => ?_)
      refine cast_of hx hb hown (hts _ q_279) hK (WW_at hR (f := 17) (i := v2.toNatClampNeg) (Nat.lt_of_lt_of_le (vin_lt g2) g3.2.1)) (ci := 3) rfl rfl dX5_cancelOrdersOf_21 ?_
      refine lv_astore_n (lv' := [(3, .ref (ad 17 v2.toNatClampNeg)), (2, .int v2), (0, .ref (ad 0 0)), (1, .int v1)]) hx hb dX5_cancelOrdersOf_24 rfl hl (by decide) rfl (fun ls hl => ?_)
      refine lv_aload_n hx hb dX5_cancelOrdersOf_25 rfl (lv_at hl 0 rfl) ?_
      refine va_getN (D := D) (ci := 3) (C := RX2) (T := TX2) (N := 6) hx hb hts iuX2 hown hK.1 (WW_one hR (f := 17) (i := v2.toNatClampNeg) (Nat.lt_of_lt_of_le (vin_lt g2) g3.2.1)) 0 rfl rfl 1 (by decide) (nw_f hK.2 q_428) (fun _ h9 => h9) rfl dX5_cancelOrdersOf_26 ?_
      refine lv_iload_n hx hb dX5_cancelOrdersOf_29 rfl (lv_at hl 3 rfl) ?_
      refine lv_icmp_ne (tgt := 38) hx hb dX5_cancelOrdersOf_30 (by decide) (fun c4 => ?_) (fun c4 => ?_)
      · have hf := if_of_pos hf c4
        obtain ⟨x5, hx5⟩ : ∃ y : Int32, y = v2 + 1 := ⟨_, rfl⟩
        have hf := kst_eq hx5 hf
        refine lv_iinc (v := x5) (lv' := [(2, .int x5), (3, .ref (ad 17 v2.toNatClampNeg)), (0, .ref (ad 0 0)), (1, .int v1)]) hx hb dX5_cancelOrdersOf_38 hl (k := 1) rfl (by rw [hx5]; rfl) (by decide) rfl (fun ls hl => ?_)
        refine lv_goto (tgt := 2) hx hb dX5_cancelOrdersOf_41 (by decide) ?_
        exact ih _ _ _ σ x5 v1 hR hS (lv_sub hl [0, 2, 3] rfl) hf
      · have hf := if_of_neg hf (fun q => q c4)
        refine lv_aload_n hx hb dX5_cancelOrdersOf_33 rfl (lv_at hl 0 rfl) ?_
        refine lv_iconst (v := 0) hx hb dX5_cancelOrdersOf_34 (by decide) ?_
        refine ww_putN (D := D) (ci := 3) (C := RX2) (T := TX2) (N := 6) (ty := .int) hx hb hts iuX2 tyX2 tyX2_ok nmX2 hown hK.1 hR hS (f := 17) (i := v2.toNatClampNeg) (Nat.lt_of_lt_of_le (vin_lt g2) g3.2.1) rfl rfl 5 (by decide) (nw_f hK.2 q_436) (fun _ h9 => h9) rfl (by decide +kernel) rfl rfl (Nat.le_of_ble_eq_true rfl) dX5_cancelOrdersOf_35 (fun H locs hR hS => ?_)
        have hR := HC_Order_rest v2.toNatClampNeg 0 hR
        obtain ⟨x6, hx6⟩ : ∃ y : Int32, y = v2 + 1 := ⟨_, rfl⟩
        have hf := kst_eq hx6 hf
        refine lv_iinc (v := x6) (lv' := [(2, .int x6), (3, .ref (ad 17 v2.toNatClampNeg)), (0, .ref (ad 0 0)), (1, .int v1)]) hx hb dX5_cancelOrdersOf_38 hl (k := 1) rfl (by rw [hx6]; rfl) (by decide) rfl (fun ls hl => ?_)
        refine lv_goto (tgt := 2) hx hb dX5_cancelOrdersOf_41 (by decide) ?_
        exact ih _ _ _ (pI σ 35 v2.toNatClampNeg 0 0) x6 v1 hR hS (lv_sub hl [0, 2, 3] rfl) hf
def fX5_cancelOrdersOf (σ : St) (a1 : Int32) : Option (St) := fX5_cancelOrdersOf_L2 1000 σ 0 a1
set_option maxHeartbeats 4000000 in
set_option maxRecDepth 100000 in
theorem mX5_cancelOrdersOf (l : Launch) (D : va_G) (dA : Nat → ClassId) (ad : Nat → Nat → Nat) (σ : St) (sz : Nat) (a1 : Int32) (σ' : St) (hf : fX5_cancelOrdersOf σ a1 = some σ') : Met l yX5_cancelOrdersOf (WSy yX5_cancelOrdersOf cX5_cancelOrdersOf 4 none) ({ frames := 3, cells := 0, slots := 0, locals := 64 } : Room) (va_Pc [.ref (ad 0 0), .int a1] (fun U => U.heap.size = sz ∧ HC D dA (fun _ => True) ad σ U.heap ∧ KS D dA U)) (va_Qv (fun (_ : Unit) => True) (fun _ t => HC D dA (WA ad (cvC σ) sz) ad σ' t.heap) (WA ad (cvC σ) sz)) 0 0 (WA ad (cvC σ) sz) := by
  refine met_of (by decide) (Nat.le_of_ble_eq_true rfl) ?_
  intro p e s m below meth c ls hC hB hl
  obtain ⟨rfl, hR, hK⟩ := hB
  have hA : ∀ q : Nat, s.heap.size ≤ q → WA ad (cvC σ) s.heap.size q := fun q h => Or.inr h
  have hR := WW_fit (B := WA ad (cvC σ) s.heap.size) hR (fun f i h => WA_in h)
  have hS : va_S (WA ad (cvC σ) s.heap.size) s.heap s.heap [] := va_S.rf
  generalize WA ad (cvC σ) s.heap.size = A0 at hA hR hS ⊢
  have hC : CTX p s m _ meth c cX5_cancelOrdersOf 4 RX5 none := hC
  obtain ⟨hx, hb, hml, hown, hts, hr, hlk⟩ := id hC
  have hl : lv_has ls 4 [(0, .ref (ad 0 0)), (1, .int a1)] := hl
  unfold fX5_cancelOrdersOf at hf
  refine lv_iconst (v := 0) hx hb dX5_cancelOrdersOf_0 (by decide) ?_
  refine lv_istore_n (lv' := [(2, .int 0), (0, .ref (ad 0 0)), (1, .int a1)]) hx hb dX5_cancelOrdersOf_1 rfl hl (by decide) rfl (fun ls hl => ?_)
  exact wX5_cancelOrdersOf_L2 hC hK hA 1000 _ _ _ σ 0 a1 hR hS (lv_sub hl [0, 1, 2] rfl) hf
def fX5_countHour (σ : St) (a1 : Int32) : Option (Int32 × St) := gd (vin a1 5) (bd (fX5_freeOf σ a1) (fun q2 => if q2.1 < 0 then some ((gI (pI q2.2 1 a1.toNatClampNeg 0 ((gI q2.2 1 a1.toNatClampNeg 0) + 1)) 1 a1.toNatClampNeg 0, pI q2.2 1 a1.toNatClampNeg 0 ((gI q2.2 1 a1.toNatClampNeg 0) + 1))) else some ((gI (pI q2.2 1 a1.toNatClampNeg 0 (-1)) 1 a1.toNatClampNeg 0, pI q2.2 1 a1.toNatClampNeg 0 (-1)))))
set_option maxHeartbeats 4000000 in
set_option maxRecDepth 100000 in
theorem mX5_countHour (l : Launch) (D : va_G) (dA : Nat → ClassId) (ad : Nat → Nat → Nat) (σ : St) (sz : Nat) (a1 : Int32) (r : Int32) (σ' : St) (hf : fX5_countHour σ a1 = some (r, σ')) : Met l yX5_countHour (WSy yX5_countHour cX5_countHour 3 (some .int)) ({ frames := 6, cells := 0, slots := 0, locals := 143 } : Room) (va_Pc [.ref (ad 0 0), .int a1] (fun U => U.heap.size = sz ∧ HC D dA (fun _ => True) ad σ U.heap ∧ KS D dA U)) (va_Qi (fun (x : Int32) (_ : Unit) => x = r) (fun _ t => HC D dA (WA ad (cvC σ) sz) ad σ' t.heap) (WA ad (cvC σ) sz)) 0 0 (WA ad (cvC σ) sz) := by
  refine met_of (by decide) (Nat.le_of_ble_eq_true rfl) ?_
  intro p e s m below meth c ls hC hB hl
  obtain ⟨rfl, hR, hK⟩ := hB
  have hA : ∀ q : Nat, s.heap.size ≤ q → WA ad (cvC σ) s.heap.size q := fun q h => Or.inr h
  have hR := WW_fit (B := WA ad (cvC σ) s.heap.size) hR (fun f i h => WA_in h)
  have hS : va_S (WA ad (cvC σ) s.heap.size) s.heap s.heap [] := va_S.rf
  generalize WA ad (cvC σ) s.heap.size = A0 at hA hR hS ⊢
  have hC : CTX p s m _ meth c cX5_countHour 3 RX5 (some .int) := hC
  obtain ⟨hx, hb, hml, hown, hts, hr, hlk⟩ := id hC
  have hl : lv_has ls 3 [(0, .ref (ad 0 0)), (1, .int a1)] := hl
  unfold fX5_countHour at hf
  refine lv_aload_n hx hb dX5_countHour_0 rfl (lv_at hl 0 rfl) ?_
  refine va_get (D := D) (ci := 6) (C := RX5) (T := TX5) (N := 8) hx hb hts iuX5 hown hK.1 (WW_one hR (f := 0) (i := 0) rfl) 0 rfl rfl 0 (by decide) (hts _ q_164) (fun _ h9 => h9) rfl dX5_countHour_1 ?_
  refine lv_iload_n hx hb dX5_countHour_4 rfl (lv_at hl 1 rfl) ?_
  obtain ⟨g1, hf⟩ := gd_of hf
  refine va_aldq (C := RX0) hx hb hK.1 (WW_one hR (f := 1) (i := 0) rfl) 0 3 rfl rfl g1 dX5_countHour_5 ?_
  refine lv_astore_n (lv' := [(2, .ref (ad 2 a1.toNatClampNeg)), (0, .ref (ad 0 0)), (1, .int a1)]) hx hb dX5_countHour_6 rfl hl (by decide) rfl (fun ls hl => ?_)
  refine lv_aload_n hx hb dX5_countHour_7 rfl (lv_at hl 1 rfl) ?_
  refine lv_iload_n hx hb dX5_countHour_8 rfl (lv_at hl 2 rfl) ?_
  obtain ⟨q2, hcq2, hf⟩ := bd_of hf
  refine kc_l (va_runV (As := [.int a1]) (rest := []) ⟨hx, hb, hml, hown, hts⟩ (mX5_freeOf l D dA ad σ _ a1 q2.1 q2.2 hcq2) (cwV 1 hts gX5_86 rfl rfl rfl (by decide +kernel) ⟨Nat.le_of_ble_eq_true rfl, Nat.le_of_ble_eq_true rfl⟩) (preV_of hR hK (f := 0) (i := 0) rfl rfl rfl _) rfl rfl hl.1 rfl (lv_room (Nat.le_of_ble_eq_true rfl)) dX5_countHour_9 ⟨Nat.zero_le _, Nat.zero_le _⟩) hA hR hS (fun H locs hR hS => ?_)
  refine lv_lconst (v := 0) hx hb dX5_countHour_12 (by decide) ?_
  refine W.lcmp hx hb dX5_countHour_13 ?_
  refine lv_if_lt (tgt := 25) hx hb dX5_countHour_14 (by decide) (fun c30 => ?_) (fun c30 => ?_)
  · have c3 : q2.1 < 0 := (lg_cmp_lt _ _).mp c30
    have hf := if_of_pos hf c3
    refine lv_aload_n hx hb dX5_countHour_25 rfl (lv_at hl 0 rfl) ?_
    refine lv_dup hx hb dX5_countHour_26 rfl ?_
    refine va_getN (D := D) (ci := 1) (C := RX0) (T := TX0) (N := 8) hx hb hts iuX0 hown hK.1 (WW_one hR (f := 2) (i := a1.toNatClampNeg) (vin_lt g1)) 0 rfl rfl 4 (by decide) (nw_f hK.2 q_107) (fun _ h9 => h9) rfl dX5_countHour_27 ?_
    refine lv_iconst (v := 1) hx hb dX5_countHour_30 (by decide) ?_
    refine lv_iadd hx hb dX5_countHour_31 ?_
    refine ww_putN (D := D) (ci := 1) (C := RX0) (T := TX0) (N := 8) (ty := .int) hx hb hts iuX0 tyX0 tyX0_ok nmX0 hown hK.1 hR hS (f := 2) (i := a1.toNatClampNeg) (vin_lt g1) rfl rfl 4 (by decide) (nw_f hK.2 q_107) (fun _ h9 => h9) rfl (by decide +kernel) rfl rfl (Nat.le_of_ble_eq_true rfl) dX5_countHour_32 (fun H locs hR hS => ?_)
    have hR := HC_Account_hoursCalled a1.toNatClampNeg ((gI q2.2 1 a1.toNatClampNeg 0) + 1) hR
    refine lv_aload_n hx hb dX5_countHour_35 rfl (lv_at hl 0 rfl) ?_
    refine va_getN (D := D) (ci := 1) (C := RX0) (T := TX0) (N := 8) hx hb hts iuX0 hown hK.1 (WW_one hR (f := 2) (i := a1.toNatClampNeg) (vin_lt g1)) 0 rfl rfl 4 (by decide) (nw_f hK.2 q_107) (fun _ h9 => h9) rfl dX5_countHour_36 ?_
    cases hf
    exact ret_i hC hR hS dX5_countHour_39
  · have c3 : ¬ (q2.1 < 0) := fun q => c30 ((lg_cmp_lt _ _).mpr q)
    have hf := if_of_neg hf c3
    refine lv_aload_n hx hb dX5_countHour_17 rfl (lv_at hl 0 rfl) ?_
    refine lv_iconst (v := (-1)) hx hb dX5_countHour_18 (by decide) ?_
    refine ww_putN (D := D) (ci := 1) (C := RX0) (T := TX0) (N := 8) (ty := .int) hx hb hts iuX0 tyX0 tyX0_ok nmX0 hown hK.1 hR hS (f := 2) (i := a1.toNatClampNeg) (vin_lt g1) rfl rfl 4 (by decide) (nw_f hK.2 q_107) (fun _ h9 => h9) rfl (by decide +kernel) rfl rfl (Nat.le_of_ble_eq_true rfl) dX5_countHour_19 (fun H locs hR hS => ?_)
    have hR := HC_Account_hoursCalled a1.toNatClampNeg (-1) hR
    refine lv_goto (tgt := 35) hx hb dX5_countHour_22 (by decide) ?_
    refine lv_aload_n hx hb dX5_countHour_35 rfl (lv_at hl 0 rfl) ?_
    refine va_getN (D := D) (ci := 1) (C := RX0) (T := TX0) (N := 8) hx hb hts iuX0 hown hK.1 (WW_one hR (f := 2) (i := a1.toNatClampNeg) (vin_lt g1)) 0 rfl rfl 4 (by decide) (nw_f hK.2 q_107) (fun _ h9 => h9) rfl dX5_countHour_36 ?_
    cases hf
    exact ret_i hC hR hS dX5_countHour_39
def fX5_memberWithMostFree_L7 : Nat → St → Int32 → Int64 → Int32 → Option (Int32 × St)
  | 0, _, _, _, _ => none
  | n + 1, σ, v4, v2, v1 => if 5 ≤ v4 then some ((v1, σ)) else gd (vin v4 5) (if ¬ (gI σ 0 v4.toNatClampNeg 0) = 0 then kst (v4 + 1) (fun x4 => fX5_memberWithMostFree_L7 n σ x4 v2 v1) else bd (fX5_freeOf σ v4) (fun q5 => if v1 = (-1) then kst (v4 + 1) (fun x7 => fX5_memberWithMostFree_L7 n q5.2 x7 q5.1 v4) else if q5.1 ≤ v2 then kst (v4 + 1) (fun x9 => fX5_memberWithMostFree_L7 n q5.2 x9 v2 v1) else kst (v4 + 1) (fun x10 => fX5_memberWithMostFree_L7 n q5.2 x10 q5.1 v4)))
set_option maxHeartbeats 4000000 in
set_option maxRecDepth 100000 in
theorem wX5_memberWithMostFree_L7 {p : Program} {l : Launch} {e : Env} {s : State} {m : MethodId} {args : Array Value} {below : List Frame} {meth : Method} {c : Code} {D : va_G} {dA : Nat → ClassId} {A0 : Nat → Prop} {ad : Nat → Nat → Nat} {r : Int32} {σ' : St}  (hC : CTX p s m args meth c cX5_memberWithMostFree 7 RX5 (some .int)) (hK : KS D dA s) (hA : ∀ q, s.heap.size ≤ q → A0 q) : ∀ (n : Nat) (H : Heap) (locs : List Loc) (ls : Array Slot) (σ : St) (v4 : Int32) (v2 : Int64) (v1 : Int32), HC D dA A0 ad σ H → va_S A0 s.heap H locs → lv_has ls 7 [(4, .int v4), (2, .long v2), (1, .int v1), (0, .ref (ad 0 0))] → fX5_memberWithMostFree_L7 n σ v4 v2 v1 = some (r, σ') → W p l e ({ frames := 6, cells := 0, slots := 0, locals := 143 } : Room) s m args below meth c H locs 0 0 (MQ below (va_Qi (fun (x : Int32) (_ : Unit) => x = r) (fun _ t => HC D dA A0 ad σ' t.heap) A0) args s 0 0 A0) (F0 m 7 ls []) := by
  obtain ⟨hx, hb, hml, hown, hts, hr, hlk⟩ := id hC
  intro n
  induction n with
  | zero =>
    intro H locs ls σ v4 v2 v1 hR hS hl hf
    rw [fX5_memberWithMostFree_L7.eq_1] at hf
    cases hf
  | succ n ih =>
    intro H locs ls σ v4 v2 v1 hR hS hl hf
    rw [fX5_memberWithMostFree_L7.eq_2] at hf
    refine lv_iload hx hb dX5_memberWithMostFree_7 (lv_at hl 0 rfl) ?_
    refine lv_iconst (v := 5) hx hb dX5_memberWithMostFree_9 (by decide) ?_
    refine lv_icmp_ge (tgt := 58) hx hb dX5_memberWithMostFree_10 (by decide) (fun c1 => ?_) (fun c1 => ?_)
    · have hf := if_of_pos hf c1
      refine lv_iload_n hx hb dX5_memberWithMostFree_58 rfl (lv_at hl 2 rfl) ?_
      cases hf
      exact ret_i hC hR hS dX5_memberWithMostFree_59
    · have hf := if_of_neg hf c1
      refine lv_aload_n hx hb dX5_memberWithMostFree_13 rfl (lv_at hl 3 rfl) ?_
      refine va_get (D := D) (ci := 6) (C := RX5) (T := TX5) (N := 8) hx hb hts iuX5 hown hK.1 (WW_one hR (f := 0) (i := 0) rfl) 0 rfl rfl 0 (by decide) (hts _ q_164) (fun _ h9 => h9) rfl dX5_memberWithMostFree_14 ?_
      refine lv_iload hx hb dX5_memberWithMostFree_17 (lv_at hl 0 rfl) ?_
      obtain ⟨g2, hf⟩ := gd_of hf
      refine va_aldq (C := RX0) hx hb hK.1 (WW_one hR (f := 1) (i := 0) rfl) 0 3 rfl rfl g2 dX5_memberWithMostFree_19 ?_
      refine va_getN (D := D) (ci := 1) (C := RX0) (T := TX0) (N := 8) hx hb hts iuX0 hown hK.1 (WW_one hR (f := 2) (i := v4.toNatClampNeg) (vin_lt g2)) 0 rfl rfl 3 (by decide) (nw_f hK.2 q_105) (fun _ h9 => h9) rfl dX5_memberWithMostFree_20 ?_
      refine lv_if_ne (tgt := 52) hx hb dX5_memberWithMostFree_23 (by decide) (fun c3 => ?_) (fun c3 => ?_)
      · have hf := if_of_pos hf c3
        obtain ⟨x4, hx4⟩ : ∃ y : Int32, y = v4 + 1 := ⟨_, rfl⟩
        have hf := kst_eq hx4 hf
        refine lv_iinc (v := x4) (lv' := [(4, .int x4), (2, .long v2), (1, .int v1), (0, .ref (ad 0 0))]) hx hb dX5_memberWithMostFree_52 hl (k := 0) rfl (by rw [hx4]; rfl) (by decide) rfl (fun ls hl => ?_)
        refine lv_goto (tgt := 7) hx hb dX5_memberWithMostFree_55 (by decide) ?_
        exact ih _ _ _ σ x4 v2 v1 hR hS (lv_sub hl [0, 1, 2, 3] rfl) hf
      · have hf := if_of_neg hf (fun q => q c3)
        refine lv_aload_n hx hb dX5_memberWithMostFree_26 rfl (lv_at hl 3 rfl) ?_
        refine lv_iload hx hb dX5_memberWithMostFree_27 (lv_at hl 0 rfl) ?_
        obtain ⟨q5, hcq5, hf⟩ := bd_of hf
        refine kc_l (va_runV (As := [.int v4]) (rest := []) ⟨hx, hb, hml, hown, hts⟩ (mX5_freeOf l D dA ad σ _ v4 q5.1 q5.2 hcq5) (cwV 1 hts gX5_86 rfl rfl rfl (by decide +kernel) ⟨Nat.le_of_ble_eq_true rfl, Nat.le_of_ble_eq_true rfl⟩) (preV_of hR hK (f := 0) (i := 0) rfl rfl rfl _) rfl rfl hl.1 rfl (lv_room (Nat.le_of_ble_eq_true rfl)) dX5_memberWithMostFree_29 ⟨Nat.zero_le _, Nat.zero_le _⟩) hA hR hS (fun H locs hR hS => ?_)
        refine lv_lstore (lv' := [(5, .long q5.1), (4, .int v4), (2, .long v2), (1, .int v1), (0, .ref (ad 0 0))]) hx hb dX5_memberWithMostFree_32 hl (by decide) rfl (fun ls hl => ?_)
        refine lv_iload_n hx hb dX5_memberWithMostFree_34 rfl (lv_at hl 3 rfl) ?_
        refine lv_iconst (v := (-1)) hx hb dX5_memberWithMostFree_35 (by decide) ?_
        refine lv_icmp_eq (tgt := 46) hx hb dX5_memberWithMostFree_36 (by decide) (fun c6 => ?_) (fun c6 => ?_)
        · have hf := if_of_pos hf c6
          refine lv_iload hx hb dX5_memberWithMostFree_46 (lv_at hl 1 rfl) ?_
          refine lv_istore_n (lv' := [(1, .int v4), (5, .long q5.1), (4, .int v4), (2, .long v2), (0, .ref (ad 0 0))]) hx hb dX5_memberWithMostFree_48 rfl hl (by decide) rfl (fun ls hl => ?_)
          refine lv_lload hx hb dX5_memberWithMostFree_49 (lv_at hl 1 rfl) ?_
          refine lv_lstore_n (lv' := [(2, .long q5.1), (1, .int v4), (5, .long q5.1), (4, .int v4), (0, .ref (ad 0 0))]) hx hb dX5_memberWithMostFree_51 rfl hl (by decide) rfl (fun ls hl => ?_)
          obtain ⟨x7, hx7⟩ : ∃ y : Int32, y = v4 + 1 := ⟨_, rfl⟩
          have hf := kst_eq hx7 hf
          refine lv_iinc (v := x7) (lv' := [(4, .int x7), (2, .long q5.1), (1, .int v4), (5, .long q5.1), (0, .ref (ad 0 0))]) hx hb dX5_memberWithMostFree_52 hl (k := 3) rfl (by rw [hx7]; rfl) (by decide) rfl (fun ls hl => ?_)
          refine lv_goto (tgt := 7) hx hb dX5_memberWithMostFree_55 (by decide) ?_
          exact ih _ _ _ q5.2 x7 q5.1 v4 hR hS (lv_sub hl [0, 1, 2, 4] rfl) hf
        · have hf := if_of_neg hf c6
          refine lv_lload hx hb dX5_memberWithMostFree_39 (lv_at hl 0 rfl) ?_
          refine lv_lload_n hx hb dX5_memberWithMostFree_41 rfl (lv_at hl 2 rfl) ?_
          refine W.lcmp hx hb dX5_memberWithMostFree_42 ?_
          refine lv_if_le (tgt := 52) hx hb dX5_memberWithMostFree_43 (by decide) (fun c80 => ?_) (fun c80 => ?_)
          · have c8 : q5.1 ≤ v2 := (lg_cmp_le _ _).mp c80
            have hf := if_of_pos hf c8
            obtain ⟨x9, hx9⟩ : ∃ y : Int32, y = v4 + 1 := ⟨_, rfl⟩
            have hf := kst_eq hx9 hf
            refine lv_iinc (v := x9) (lv' := [(4, .int x9), (5, .long q5.1), (2, .long v2), (1, .int v1), (0, .ref (ad 0 0))]) hx hb dX5_memberWithMostFree_52 hl (k := 1) rfl (by rw [hx9]; rfl) (by decide) rfl (fun ls hl => ?_)
            refine lv_goto (tgt := 7) hx hb dX5_memberWithMostFree_55 (by decide) ?_
            exact ih _ _ _ q5.2 x9 v2 v1 hR hS (lv_sub hl [0, 2, 3, 4] rfl) hf
          · have c8 : ¬ (q5.1 ≤ v2) := fun q => c80 ((lg_cmp_le _ _).mpr q)
            have hf := if_of_neg hf c8
            refine lv_iload hx hb dX5_memberWithMostFree_46 (lv_at hl 1 rfl) ?_
            refine lv_istore_n (lv' := [(1, .int v4), (5, .long q5.1), (4, .int v4), (2, .long v2), (0, .ref (ad 0 0))]) hx hb dX5_memberWithMostFree_48 rfl hl (by decide) rfl (fun ls hl => ?_)
            refine lv_lload hx hb dX5_memberWithMostFree_49 (lv_at hl 1 rfl) ?_
            refine lv_lstore_n (lv' := [(2, .long q5.1), (1, .int v4), (5, .long q5.1), (4, .int v4), (0, .ref (ad 0 0))]) hx hb dX5_memberWithMostFree_51 rfl hl (by decide) rfl (fun ls hl => ?_)
            obtain ⟨x10, hx10⟩ : ∃ y : Int32, y = v4 + 1 := ⟨_, rfl⟩
            have hf := kst_eq hx10 hf
            refine lv_iinc (v := x10) (lv' := [(4, .int x10), (2, .long q5.1), (1, .int v4), (5, .long q5.1), (0, .ref (ad 0 0))]) hx hb dX5_memberWithMostFree_52 hl (k := 3) rfl (by rw [hx10]; rfl) (by decide) rfl (fun ls hl => ?_)
            refine lv_goto (tgt := 7) hx hb dX5_memberWithMostFree_55 (by decide) ?_
            exact ih _ _ _ q5.2 x10 q5.1 v4 hR hS (lv_sub hl [0, 1, 2, 4] rfl) hf
def fX5_memberWithMostFree (σ : St) : Option (Int32 × St) := fX5_memberWithMostFree_L7 1000 σ 0 0 (-1)
set_option maxHeartbeats 4000000 in
set_option maxRecDepth 100000 in
theorem mX5_memberWithMostFree (l : Launch) (D : va_G) (dA : Nat → ClassId) (ad : Nat → Nat → Nat) (σ : St) (sz : Nat) (r : Int32) (σ' : St) (hf : fX5_memberWithMostFree σ = some (r, σ')) : Met l yX5_memberWithMostFree (WSy yX5_memberWithMostFree cX5_memberWithMostFree 7 (some .int)) ({ frames := 6, cells := 0, slots := 0, locals := 143 } : Room) (va_Pc [.ref (ad 0 0)] (fun U => U.heap.size = sz ∧ HC D dA (fun _ => True) ad σ U.heap ∧ KS D dA U)) (va_Qi (fun (x : Int32) (_ : Unit) => x = r) (fun _ t => HC D dA (WA ad (cvC σ) sz) ad σ' t.heap) (WA ad (cvC σ) sz)) 0 0 (WA ad (cvC σ) sz) := by
  refine met_of (by decide) (Nat.le_of_ble_eq_true rfl) ?_
  intro p e s m below meth c ls hC hB hl
  obtain ⟨rfl, hR, hK⟩ := hB
  have hA : ∀ q : Nat, s.heap.size ≤ q → WA ad (cvC σ) s.heap.size q := fun q h => Or.inr h
  have hR := WW_fit (B := WA ad (cvC σ) s.heap.size) hR (fun f i h => WA_in h)
  have hS : va_S (WA ad (cvC σ) s.heap.size) s.heap s.heap [] := va_S.rf
  generalize WA ad (cvC σ) s.heap.size = A0 at hA hR hS ⊢
  have hC : CTX p s m _ meth c cX5_memberWithMostFree 7 RX5 (some .int) := hC
  obtain ⟨hx, hb, hml, hown, hts, hr, hlk⟩ := id hC
  have hl : lv_has ls 7 [(0, .ref (ad 0 0))] := hl
  unfold fX5_memberWithMostFree at hf
  refine lv_iconst (v := (-1)) hx hb dX5_memberWithMostFree_0 (by decide) ?_
  refine lv_istore_n (lv' := [(1, .int (-1)), (0, .ref (ad 0 0))]) hx hb dX5_memberWithMostFree_1 rfl hl (by decide) rfl (fun ls hl => ?_)
  refine lv_lconst (v := 0) hx hb dX5_memberWithMostFree_2 (by decide) ?_
  refine lv_lstore_n (lv' := [(2, .long 0), (1, .int (-1)), (0, .ref (ad 0 0))]) hx hb dX5_memberWithMostFree_3 rfl hl (by decide) rfl (fun ls hl => ?_)
  refine lv_iconst (v := 0) hx hb dX5_memberWithMostFree_4 (by decide) ?_
  refine lv_istore (lv' := [(4, .int 0), (2, .long 0), (1, .int (-1)), (0, .ref (ad 0 0))]) hx hb dX5_memberWithMostFree_5 hl (by decide) rfl (fun ls hl => ?_)
  exact wX5_memberWithMostFree_L7 hC hK hA 1000 _ _ _ σ 0 0 (-1) hR hS (lv_sub hl [0, 1, 2, 3] rfl) hf
def fX5_trades (σ : St) : Option (Int32) := some (gI σ 20 0 0)
set_option maxHeartbeats 4000000 in
set_option maxRecDepth 100000 in
theorem mX5_trades (l : Launch) (D : va_G) (dA : Nat → ClassId) (ad : Nat → Nat → Nat) (σ : St) (sz : Nat) (r : Int32) (hf : fX5_trades σ = some r) : Met l yX5_trades (WSy yX5_trades cX5_trades 1 (some .int)) ({ frames := 0, cells := 0, slots := 0, locals := 0 } : Room) (va_Pc [.ref (ad 0 0)] (fun U => U.heap.size = sz ∧ HC D dA (fun _ => True) ad σ U.heap ∧ KS D dA U)) (va_Qi (fun (x : Int32) (_ : Unit) => x = r) (fun _ t => HC D dA (WA ad (cvC σ) sz) ad σ t.heap) (WA ad (cvC σ) sz)) 0 0 (WA ad (cvC σ) sz) := by
  refine met_of (by decide) (Nat.le_of_ble_eq_true rfl) ?_
  intro p e s m below meth c ls hC hB hl
  obtain ⟨rfl, hR, hK⟩ := hB
  have hA : ∀ q : Nat, s.heap.size ≤ q → WA ad (cvC σ) s.heap.size q := fun q h => Or.inr h
  have hR := WW_fit (B := WA ad (cvC σ) s.heap.size) hR (fun f i h => WA_in h)
  have hS : va_S (WA ad (cvC σ) s.heap.size) s.heap s.heap [] := va_S.rf
  generalize WA ad (cvC σ) s.heap.size = A0 at hA hR hS ⊢
  have hC : CTX p s m _ meth c cX5_trades 1 RX5 (some .int) := hC
  obtain ⟨hx, hb, hml, hown, hts, hr, hlk⟩ := id hC
  have hl : lv_has ls 1 [(0, .ref (ad 0 0))] := hl
  unfold fX5_trades at hf
  refine lv_aload_n hx hb dX5_trades_0 rfl (lv_at hl 0 rfl) ?_
  refine va_get (D := D) (ci := 6) (C := RX5) (T := TX5) (N := 8) hx hb hts iuX5 hown hK.1 (WW_one hR (f := 0) (i := 0) rfl) 0 rfl rfl 6 (by decide) (hts _ q_170) (fun _ h9 => h9) rfl dX5_trades_1 ?_
  cases hf
  exact ret_i hC hR hS dX5_trades_4
def fX5_unpaid (σ : St) : Option (Int32) := some (Int64.toInt32 (gL σ 20 0 0))
set_option maxHeartbeats 4000000 in
set_option maxRecDepth 100000 in
theorem mX5_unpaid (l : Launch) (D : va_G) (dA : Nat → ClassId) (ad : Nat → Nat → Nat) (σ : St) (sz : Nat) (r : Int32) (hf : fX5_unpaid σ = some r) : Met l yX5_unpaid (WSy yX5_unpaid cX5_unpaid 1 (some .int)) ({ frames := 0, cells := 0, slots := 0, locals := 0 } : Room) (va_Pc [.ref (ad 0 0)] (fun U => U.heap.size = sz ∧ HC D dA (fun _ => True) ad σ U.heap ∧ KS D dA U)) (va_Qi (fun (x : Int32) (_ : Unit) => x = r) (fun _ t => HC D dA (WA ad (cvC σ) sz) ad σ t.heap) (WA ad (cvC σ) sz)) 0 0 (WA ad (cvC σ) sz) := by
  refine met_of (by decide) (Nat.le_of_ble_eq_true rfl) ?_
  intro p e s m below meth c ls hC hB hl
  obtain ⟨rfl, hR, hK⟩ := hB
  have hA : ∀ q : Nat, s.heap.size ≤ q → WA ad (cvC σ) s.heap.size q := fun q h => Or.inr h
  have hR := WW_fit (B := WA ad (cvC σ) s.heap.size) hR (fun f i h => WA_in h)
  have hS : va_S (WA ad (cvC σ) s.heap.size) s.heap s.heap [] := va_S.rf
  generalize WA ad (cvC σ) s.heap.size = A0 at hA hR hS ⊢
  have hC : CTX p s m _ meth c cX5_unpaid 1 RX5 (some .int) := hC
  obtain ⟨hx, hb, hml, hown, hts, hr, hlk⟩ := id hC
  have hl : lv_has ls 1 [(0, .ref (ad 0 0))] := hl
  unfold fX5_unpaid at hf
  refine lv_aload_n hx hb dX5_unpaid_0 rfl (lv_at hl 0 rfl) ?_
  refine va_get (D := D) (ci := 6) (C := RX5) (T := TX5) (N := 8) hx hb hts iuX5 hown hK.1 (WW_one hR (f := 0) (i := 0) rfl) 0 rfl rfl 7 (by decide) (hts _ q_171) (fun _ h9 => h9) rfl dX5_unpaid_1 ?_
  refine lv_l2i hx hb dX5_unpaid_4 rfl ?_
  cases hf
  exact ret_i hC hR hS dX5_unpaid_5
def fX5_evening_L4 : Nat → St → Int32 → Int64 → Option (Int32 × St)
  | 0, _, _, _ => none
  | n + 1, σ, v3, v1 => if 5 ≤ v3 then some ((Int64.toInt32 v1, σ)) else gd (vin v3 5) (bd (fX5_netPositions σ v3.toNatClampNeg) (fun q3 => kst (v1 + q3.1) (fun x4 => kst (v3 + 1) (fun x5 => fX5_evening_L4 n q3.2 x5 x4))))
set_option maxHeartbeats 4000000 in
set_option maxRecDepth 100000 in
theorem wX5_evening_L4 {p : Program} {l : Launch} {e : Env} {s : State} {m : MethodId} {args : Array Value} {below : List Frame} {meth : Method} {c : Code} {D : va_G} {dA : Nat → ClassId} {A0 : Nat → Prop} {ad : Nat → Nat → Nat} {r : Int32} {σ' : St}  (hC : CTX p s m args meth c cX5_evening 4 RX5 (some .int)) (hK : KS D dA s) (hA : ∀ q, s.heap.size ≤ q → A0 q) : ∀ (n : Nat) (H : Heap) (locs : List Loc) (ls : Array Slot) (σ : St) (v3 : Int32) (v1 : Int64), HC D dA A0 ad σ H → va_S A0 s.heap H locs → lv_has ls 4 [(3, .int v3), (1, .long v1), (0, .ref (ad 0 0))] → fX5_evening_L4 n σ v3 v1 = some (r, σ') → W p l e ({ frames := 2, cells := 0, slots := 0, locals := 48 } : Room) s m args below meth c H locs 0 0 (MQ below (va_Qi (fun (x : Int32) (_ : Unit) => x = r) (fun _ t => HC D dA A0 ad σ' t.heap) A0) args s 0 0 A0) (F0 m 4 ls []) := by
  obtain ⟨hx, hb, hml, hown, hts, hr, hlk⟩ := id hC
  intro n
  induction n with
  | zero =>
    intro H locs ls σ v3 v1 hR hS hl hf
    rw [fX5_evening_L4.eq_1] at hf
    cases hf
  | succ n ih =>
    intro H locs ls σ v3 v1 hR hS hl hf
    rw [fX5_evening_L4.eq_2] at hf
    refine lv_iload_n hx hb dX5_evening_4 rfl (lv_at hl 0 rfl) ?_
    refine lv_iconst (v := 5) hx hb dX5_evening_5 (by decide) ?_
    refine lv_icmp_ge (tgt := 28) hx hb dX5_evening_6 (by decide) (fun c1 => ?_) (fun c1 => ?_)
    · have hf := if_of_pos hf c1
      refine lv_lload_n hx hb dX5_evening_28 rfl (lv_at hl 1 rfl) ?_
      refine lv_l2i hx hb dX5_evening_29 rfl ?_
      cases hf
      exact ret_i hC hR hS dX5_evening_30
    · have hf := if_of_neg hf c1
      refine lv_lload_n hx hb dX5_evening_9 rfl (lv_at hl 1 rfl) ?_
      refine lv_aload_n hx hb dX5_evening_10 rfl (lv_at hl 2 rfl) ?_
      refine lv_aload_n hx hb dX5_evening_11 rfl (lv_at hl 2 rfl) ?_
      refine va_get (D := D) (ci := 6) (C := RX5) (T := TX5) (N := 8) hx hb hts iuX5 hown hK.1 (WW_one hR (f := 0) (i := 0) rfl) 0 rfl rfl 0 (by decide) (hts _ q_164) (fun _ h9 => h9) rfl dX5_evening_12 ?_
      refine lv_iload_n hx hb dX5_evening_15 rfl (lv_at hl 0 rfl) ?_
      obtain ⟨g2, hf⟩ := gd_of hf
      refine va_aldq (C := RX0) hx hb hK.1 (WW_one hR (f := 1) (i := 0) rfl) 0 3 rfl rfl g2 dX5_evening_16 ?_
      obtain ⟨q3, hcq3, hf⟩ := bd_of hf
      refine kc_l (va_runV (As := [.ref (ad 2 v3.toNatClampNeg)]) (rest := [.long v1]) ⟨hx, hb, hml, hown, hts⟩ (mX5_netPositions l D dA ad σ _ v3.toNatClampNeg q3.1 q3.2 hcq3 (vin_lt g2)) (cwV 1 hts gX5_164 rfl rfl rfl (by decide +kernel) ⟨Nat.le_of_ble_eq_true rfl, Nat.le_of_ble_eq_true rfl⟩) (preV_of hR hK (f := 0) (i := 0) rfl rfl rfl _) rfl rfl hl.1 rfl (lv_room (Nat.le_of_ble_eq_true rfl)) dX5_evening_17 ⟨Nat.zero_le _, Nat.zero_le _⟩) hA hR hS (fun H locs hR hS => ?_)
      refine lv_ladd hx hb dX5_evening_20 ?_
      refine lv_topl (fun x4 hx4 => ?_)
      have hf := kst_eq hx4 hf
      refine lv_lstore_n (lv' := [(1, .long x4), (3, .int v3), (0, .ref (ad 0 0))]) hx hb dX5_evening_21 rfl hl (by decide) rfl (fun ls hl => ?_)
      obtain ⟨x5, hx5⟩ : ∃ y : Int32, y = v3 + 1 := ⟨_, rfl⟩
      have hf := kst_eq hx5 hf
      refine lv_iinc (v := x5) (lv' := [(3, .int x5), (1, .long x4), (0, .ref (ad 0 0))]) hx hb dX5_evening_22 hl (k := 1) rfl (by rw [hx5]; rfl) (by decide) rfl (fun ls hl => ?_)
      refine lv_goto (tgt := 4) hx hb dX5_evening_25 (by decide) ?_
      exact ih _ _ _ q3.2 x5 x4 hR hS (lv_sub hl [0, 1, 2] rfl) hf
def fX5_evening (σ : St) : Option (Int32 × St) := fX5_evening_L4 1000 σ 0 0
set_option maxHeartbeats 4000000 in
set_option maxRecDepth 100000 in
theorem mX5_evening (l : Launch) (D : va_G) (dA : Nat → ClassId) (ad : Nat → Nat → Nat) (σ : St) (sz : Nat) (r : Int32) (σ' : St) (hf : fX5_evening σ = some (r, σ')) : Met l yX5_evening (WSy yX5_evening cX5_evening 4 (some .int)) ({ frames := 2, cells := 0, slots := 0, locals := 48 } : Room) (va_Pc [.ref (ad 0 0)] (fun U => U.heap.size = sz ∧ HC D dA (fun _ => True) ad σ U.heap ∧ KS D dA U)) (va_Qi (fun (x : Int32) (_ : Unit) => x = r) (fun _ t => HC D dA (WA ad (cvC σ) sz) ad σ' t.heap) (WA ad (cvC σ) sz)) 0 0 (WA ad (cvC σ) sz) := by
  refine met_of (by decide) (Nat.le_of_ble_eq_true rfl) ?_
  intro p e s m below meth c ls hC hB hl
  obtain ⟨rfl, hR, hK⟩ := hB
  have hA : ∀ q : Nat, s.heap.size ≤ q → WA ad (cvC σ) s.heap.size q := fun q h => Or.inr h
  have hR := WW_fit (B := WA ad (cvC σ) s.heap.size) hR (fun f i h => WA_in h)
  have hS : va_S (WA ad (cvC σ) s.heap.size) s.heap s.heap [] := va_S.rf
  generalize WA ad (cvC σ) s.heap.size = A0 at hA hR hS ⊢
  have hC : CTX p s m _ meth c cX5_evening 4 RX5 (some .int) := hC
  obtain ⟨hx, hb, hml, hown, hts, hr, hlk⟩ := id hC
  have hl : lv_has ls 4 [(0, .ref (ad 0 0))] := hl
  unfold fX5_evening at hf
  refine lv_lconst (v := 0) hx hb dX5_evening_0 (by decide) ?_
  refine lv_lstore_n (lv' := [(1, .long 0), (0, .ref (ad 0 0))]) hx hb dX5_evening_1 rfl hl (by decide) rfl (fun ls hl => ?_)
  refine lv_iconst (v := 0) hx hb dX5_evening_2 (by decide) ?_
  refine lv_istore_n (lv' := [(3, .int 0), (1, .long 0), (0, .ref (ad 0 0))]) hx hb dX5_evening_3 rfl hl (by decide) rfl (fun ls hl => ?_)
  exact wX5_evening_L4 hC hK hA 1000 _ _ _ σ 0 0 hR hS (lv_sub hl [0, 1, 2] rfl) hf
